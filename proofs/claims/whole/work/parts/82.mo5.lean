/-! THE REFERENCE'S CALLS: power, root, compare, bits, word, end, read, write, octet (rows laid by wip/whole/gen/c_mo5.py) -/
set_option maxHeartbeats 4000000 in
set_option maxRecDepth 100000 in
/-- power0 -/
theorem c_Mo_power0 (l : Launch) {D : va_G} {cI cB cR : ClassId} {ad : Nat → Nat} (w : Mt) (sz : Nat) (hl9 : l.stackTraces = false) (x1 x2 n : Int32) (A : Ab) (hMI : MI w A) : vx_Met l y_Mo_power0 (q_Mo_power0 :: wA) { frames := 14, cells := 4, slots := 24, locals := 300 } (va_Pc [.ref (ad 0), .int (x1), .int (x2), .int (n)] (PM D cI cB cR ad w sz)) (va_Qi (fun (r : Int32) (w1 : Mt) => okm (mX w) (sp_power x1 x2 n A) r w1) (BM D cI cB cR ad) (AM ad sz)) (XM D cI cB cR ad (fun E u => thm9 (sp_power x1 x2 n A) E_IA E_IS E u) sz) 4 24 (AM ad sz) := by
  refine vx_ofW (cc := b_Mo_power0) (maxL := 4) (ret := (some (.int))) (by decide) rfl ?_
  intro p e s m args below meth c s₁ B hml htab hv
  obtain ⟨rfl, hsz, hP, hD0, hKW⟩ := hv
  have hx := B.exec
  have hb := B.bytes
  have hr := B.returns
  have hts := atoms_spec (ws := q_Mo_power0 :: wA) B.pre
  have hown : s.vm.findClass R_Mo = some m.cls := findClass_of_methodNamed B.named
  have hlocks := B.notSynchronized
  subst hsz
  have hD := NM_AM (sz := s.heap.size) hD0
  have hS : va_S (AM ad s.heap.size) s.heap s.heap [] := va_S.rf
  have hl := lv_entry ([.ref (ad 0), .int (x1), .int (x2), .int (n)]) (n := 4) (Nat.le_of_ble_eq_true rfl)
  rw [lg_entry_eq]
  generalize (lg_sl ([.ref (ad 0), .int (x1), .int (x2), .int (n)]) ++ List.replicate (4 - (lg_sl ([.ref (ad 0), .int (x1), .int (x2), .int (n)])).length) Slot.unset).toArray = ls at hl ⊢
  have hl : lv_has ls 4 [(0, .ref (ad 0)), (1, .int (x1)), (2, .int (x2)), (3, .int (n))] := hl
  have h3 := hMI.w3
  refine lv_iload_n hx hb d_Mo_power0_0 rfl (lv_at hl 1 rfl) ?_
  refine yS_v (As := [.int (x1)]) (rest := []) (n := 1) ⟨hx, hb, hml, hown, hts⟩ (c_Mo_named l w _ hl9 x1) (cwS0 1 hts lm_Mo_77 st_Mo_named in_Mo kq_Mo_named rfl rfl rfl (by decide +kernel) ⟨Nat.le_of_ble_eq_true rfl, Nat.le_of_ble_eq_true rfl⟩) hKW hP hD hS rfl hl.1 rfl (Nat.le_of_ble_eq_true rfl) d_Mo_power0_1 ⟨Nat.le_of_ble_eq_true rfl, Nat.le_of_ble_eq_true rfl⟩ htab hlocks ⟨Nat.le_of_ble_eq_true rfl, Nat.le_of_ble_eq_true rfl⟩ (fun E u h => by obtain ⟨hEx, hu, hn⟩ := h; subst hu; exact ⟨A, hMI, Or.inl ⟨hEx, if_neg (fun q => hn q.1)⟩⟩) (fun w1 H locs hp hP hD hS => ?_)
  obtain ⟨ew, hr1, hr2⟩ := hp
  rw [ew] at hP hD
  obtain ⟨i1, hi1, hvi1⟩ := reg_ix hr1 hr2
  subst hvi1
  have wni1 : wN (nI i1) = i1 := wN_small (by omega)
  refine lv_iload_n hx hb d_Mo_power0_4 rfl (lv_at hl 2 rfl) ?_
  refine yS_v (As := [.int (x2)]) (rest := []) (n := 1) ⟨hx, hb, hml, hown, hts⟩ (c_Mo_named l w _ hl9 x2) (cwS0 1 hts lm_Mo_77 st_Mo_named in_Mo kq_Mo_named rfl rfl rfl (by decide +kernel) ⟨Nat.le_of_ble_eq_true rfl, Nat.le_of_ble_eq_true rfl⟩) hKW hP hD hS rfl hl.1 rfl (Nat.le_of_ble_eq_true rfl) d_Mo_power0_5 ⟨Nat.le_of_ble_eq_true rfl, Nat.le_of_ble_eq_true rfl⟩ htab hlocks ⟨Nat.le_of_ble_eq_true rfl, Nat.le_of_ble_eq_true rfl⟩ (fun E u h => by obtain ⟨hEx, hu, hn⟩ := h; subst hu; exact ⟨A, hMI, Or.inl ⟨hEx, if_neg (fun q => hn q.2.1)⟩⟩) (fun w1 H locs hp hP hD hS => ?_)
  obtain ⟨ew, hr1, hr2⟩ := hp
  rw [ew] at hP hD
  obtain ⟨i2, hi2, hvi2⟩ := reg_ix hr1 hr2
  subst hvi2
  have wni2 : wN (nI i2) = i2 := wN_small (by omega)
  refine lv_iload_n hx hb d_Mo_power0_8 rfl (lv_at hl 3 rfl) ?_
  refine lv_iconst (v := nI (0)) hx hb d_Mo_power0_9 (by decide) ?_
  refine lv_bipush (v := nI (100)) hx hb d_Mo_power0_10 (by decide) ?_
  refine zS_i (As := [.int (n), .int (nI (0)), .int (nI (100))]) (rest := []) (n := 3) ⟨hx, hb, hml, hown, hts⟩ (c_Mo_in l w _ n (nI 0) (nI 100)) (cwS0 3 hts lm_Mo_56 st_Mo_in in_Mo kq_Mo_in rfl rfl rfl (by decide +kernel) ⟨Nat.le_of_ble_eq_true rfl, Nat.le_of_ble_eq_true rfl⟩) hKW hP hD hS rfl hl.1 rfl (Nat.le_of_ble_eq_true rfl) d_Mo_power0_12 ⟨Nat.le_of_ble_eq_true rfl, Nat.le_of_ble_eq_true rfl⟩ (fun r w1 H locs hp hP hD hS => ?_)
  obtain ⟨ew, hor⟩ := hp
  rw [ew] at hP hD
  refine yS_v (As := [.int (r)]) (rest := []) (n := 1) ⟨hx, hb, hml, hown, hts⟩ (c_Mo_check l w _ hl9 r) (cwS0 1 hts lm_Mo_60 st_Mo_check in_Mo kq_Mo_check rfl rfl rfl (by decide +kernel) ⟨Nat.le_of_ble_eq_true rfl, Nat.le_of_ble_eq_true rfl⟩) hKW hP hD hS rfl hl.1 rfl (Nat.le_of_ble_eq_true rfl) d_Mo_power0_15 ⟨Nat.le_of_ble_eq_true rfl, Nat.le_of_ble_eq_true rfl⟩ htab hlocks ⟨Nat.le_of_ble_eq_true rfl, Nat.le_of_ble_eq_true rfl⟩ (fun E u h => by obtain ⟨hEx, hu, hz⟩ := h; subst hu; exact ⟨A, hMI, Or.inl ⟨hEx, if_neg (fun q => by rcases hor with z | z; exact absurd (z.1.symm.trans hz) (by decide); exact z.2 q.2.2)⟩⟩) (fun w2 H locs hp hP hD hS => ?_)
  obtain ⟨ew, hne⟩ := hp
  rw [ew] at hP hD
  obtain ⟨hr1, hr2⟩ : (nI 0) ≤ n ∧ n ≤ (nI 100) := by rcases hor with z | z; exact z.2; exact absurd z.1 hne
  obtain ⟨kk, hkkl, hkkh, hvkk⟩ := rng_ix (a := 0) (b := 100) (by omega) hr1 hr2 (by omega)
  subst hvkk
  have wnkk : wN (nI kk) = kk := wN_small (by omega)
  have hbv := hMI.bits hi2
  have hrg : rg (nI i1) ∧ rg (nI i2) ∧ nI 0 ≤ nI kk ∧ nI kk ≤ nI 100 := ⟨rg_nI hi1, rg_nI hi2, hr1, hr2⟩
  have hkb : kk * nb (aG A i2) ≤ 100 * 200000 := Nat.mul_le_mul hkkh hbv
  refine lv_iload_n hx hb d_Mo_power0_18 rfl (lv_at hl 3 rfl) ?_
  refine lv_i2l (v := lN (kk)) hx hb d_Mo_power0_19 (nI_l (by omega)) ?_
  refine lv_aload_n hx hb d_Mo_power0_20 rfl (lv_at hl 0 rfl) ?_
  refine mw_gF0 hx hb hts hown hKW.1 hP lf_Mo_11 d_Mo_power0_21 ?_
  refine lv_iload_n hx hb d_Mo_power0_24 rfl (lv_at hl 2 rfl) ?_
  refine mw_lG hx hb hKW.1 hP (j := i2) (by omega) d_Mo_power0_25 ?_
  refine zV_i (As := []) (rest := [.long (lN (kk))]) (n := 0) ⟨hx, hb, hml, hown, hts⟩ (c_Mn_bits l w _ (i := i2) (by omega) h3 (hMI.reg hi2)) (cwV0 0 hts lm_Mo_73 im_Mn_bits se_Mn_bits in_Mn kq_Mn_bits rfl rfl rfl (by decide +kernel) ⟨Nat.le_of_ble_eq_true rfl, Nat.le_of_ble_eq_true rfl⟩) (recMn hKW.1 hP (i := i2) (by omega)) hKW hP hD hS rfl hl.1 rfl (Nat.le_of_ble_eq_true rfl) d_Mo_power0_26 ⟨Nat.le_of_ble_eq_true rfl, Nat.le_of_ble_eq_true rfl⟩ (fun r w2 H locs hp hP hD hS => ?_)
  obtain ⟨er, ew⟩ := hp
  rw [ew] at hP hD
  subst er
  refine lv_i2l (v := lN (nb (aG A i2))) hx hb d_Mo_power0_29 (nI_l (by omega)) ?_
  refine nw_lmul (v := lN (kk * (nb (aG A i2)))) hx hb d_Mo_power0_30 (lN_mul _ _) ?_
  refine yS_v (As := [.long (lN (kk * (nb (aG A i2))))]) (rest := []) (n := 1) ⟨hx, hb, hml, hown, hts⟩ (c_Mo_fits l w _ hl9 (b := kk * nb (aG A i2)) (by omega)) (cwS0 1 hts lm_Mo_93 st_Mo_fits in_Mo kq_Mo_fits rfl rfl rfl (by decide +kernel) ⟨Nat.le_of_ble_eq_true rfl, Nat.le_of_ble_eq_true rfl⟩) hKW hP hD hS rfl hl.1 rfl (Nat.le_of_ble_eq_true rfl) d_Mo_power0_31 ⟨Nat.le_of_ble_eq_true rfl, Nat.le_of_ble_eq_true rfl⟩ htab hlocks ⟨Nat.le_of_ble_eq_true rfl, Nat.le_of_ble_eq_true rfl⟩ (fun E u h => by obtain ⟨hEx, hu, hn⟩ := h; subst hu; exact ⟨A, hMI, Or.inr ⟨hEx, by unfold sp_power; rw [wni2, wnkk, if_pos hrg, if_pos hn]⟩⟩) (fun w2 H locs hp hP hD hS => ?_)
  obtain ⟨ew, hle⟩ := hp
  rw [ew] at hP hD
  have hpb : nb (aG A i2 ^ kk) ≤ 200000 := by
    rcases Nat.eq_zero_or_pos kk with z | z
    · rw [z, Nat.pow_zero]; decide
    · exact Nat.le_trans (nb_powL _ z) hle
  refine lv_aload_n hx hb d_Mo_power0_34 rfl (lv_at hl 0 rfl) ?_
  refine mw_gF6 hx hb hts hown hKW.1 hP lf_Mo_34 d_Mo_power0_35 ?_
  refine lv_lconst (v := lN (1)) hx hb d_Mo_power0_38 (by decide) ?_
  refine zV_v (As := [.long (lN (1))]) (rest := []) (n := 1) ⟨hx, hb, hml, hown, hts⟩ (c_Mn_set_J l w _ (i := 15) (V := 1) (by omega) (by decide) h3) (cwV0 1 hts lm_Mo_80 im_Mn_set_J se_Mn_set_J in_Mn kq_Mn_set_J rfl rfl rfl (by decide +kernel) ⟨Nat.le_of_ble_eq_true rfl, Nat.le_of_ble_eq_true rfl⟩) (recMn hKW.1 hP (i := 15) (by omega)) hKW hP hD hS rfl hl.1 rfl (Nat.le_of_ble_eq_true rfl) d_Mo_power0_39 ⟨Nat.le_of_ble_eq_true rfl, Nat.le_of_ble_eq_true rfl⟩ (fun w2 H locs hp hP hD hS => ?_)
  obtain ⟨hE2, hV2, h32⟩ := hp
  have hM2 := hMI.same hE2 h32 (fun j => one10 (by omega))
  refine lv_aload_n hx hb d_Mo_power0_42 rfl (lv_at hl 0 rfl) ?_
  refine mw_gF8 hx hb hts hown hKW.1 hP lf_Mo_40 d_Mo_power0_43 ?_
  refine lv_aload_n hx hb d_Mo_power0_46 rfl (lv_at hl 0 rfl) ?_
  refine mw_gF0 hx hb hts hown hKW.1 hP lf_Mo_11 d_Mo_power0_47 ?_
  refine lv_iload_n hx hb d_Mo_power0_50 rfl (lv_at hl 2 rfl) ?_
  refine mw_lG hx hb hKW.1 hP (j := i2) (by omega) d_Mo_power0_51 ?_
  refine zV_v (As := [.ref (ad (2 * i2 + 4))]) (rest := []) (n := 1) ⟨hx, hb, hml, hown, hts⟩ (c_Mn_set_N l w2 _ (i := 17) (a := i2) (by omega) (by omega) (by omega) h32 (hM2.reg hi2)) (cwV0 1 hts lm_Mo_69 im_Mn_set_N se_Mn_set_N in_Mn kq_Mn_set_N rfl rfl rfl (by decide +kernel) ⟨Nat.le_of_ble_eq_true rfl, Nat.le_of_ble_eq_true rfl⟩) (recMn hKW.1 hP (i := 17) (by omega)) hKW hP hD hS rfl hl.1 rfl (Nat.le_of_ble_eq_true rfl) d_Mo_power0_52 ⟨Nat.le_of_ble_eq_true rfl, Nat.le_of_ble_eq_true rfl⟩ (fun w3 H locs hp hP hD hS => ?_)
  obtain ⟨hE3, hV3, h33⟩ := hp
  have hM3 := hM2.same hE3 h33 (fun j => one10 (by omega))
  refine lv_iload_n hx hb d_Mo_power0_55 rfl (lv_at hl 3 rfl) ?_
  refine lv_if_le (tgt := 68) hx hb d_Mo_power0_56 (by decide) (fun c56 => ?_) (fun c56 => ?_)
  · skip
    have c56 : kk ≤ 0 := (nI_leI (by omega) (by omega)).mp (by first | (rw [nI_0]; exact c56) | rw [nI_0])
    have ek : kk = 0 := by omega
    subst ek
    refine lv_aload_n hx hb d_Mo_power0_68 rfl (lv_at hl 0 rfl) ?_
    refine lv_iload_n hx hb d_Mo_power0_69 rfl (lv_at hl 1 rfl) ?_
    refine lv_aload_n hx hb d_Mo_power0_70 rfl (lv_at hl 0 rfl) ?_
    refine mw_gF6 hx hb hts hown hKW.1 hP lf_Mo_34 d_Mo_power0_71 ?_
    refine zV_i (As := [.int (nI (i1)), .ref (ad 34)]) (rest := []) (n := 2) ⟨hx, hb, hml, hown, hts⟩ (c_Mo_keep l w3 _ (x := i1) (a := 15) (by omega) (by omega) (by omega) h33 (hE3.nu (by simp) hV2)) (cwV0 2 hts lm_Mo_83 im_Mo_keep se_Mo_keep in_Mo kq_Mo_keep rfl rfl rfl (by decide +kernel) ⟨Nat.le_of_ble_eq_true rfl, Nat.le_of_ble_eq_true rfl⟩) (recMo hKW.1 hP) hKW hP hD hS rfl hl.1 rfl (Nat.le_of_ble_eq_true rfl) d_Mo_power0_74 ⟨Nat.le_of_ble_eq_true rfl, Nat.le_of_ble_eq_true rfl⟩ (fun r w4 H locs hp hP hD hS => ?_)
    obtain ⟨er, hEk, hVk, h3k⟩ := hp
    subst er
    exact vx_ret (W.widen (k := 4) (n := 24) (Nat.le_of_ble_eq_true rfl) (Nat.le_of_ble_eq_true rfl) (W.iret (v := nI (nb (1))) hx hb hr (fun t ht hW => ⟨⟨_, w4, rfl, ⟨pG A i1 1, hM3.put hEk h3k (fun j => one_i) hVk (by decide), hEk.X.trans (hE3.X.trans hE2.X), by unfold sp_power; rw [wni1, wni2, wnkk, if_pos hrg, Nat.pow_zero, if_neg (by omega)]⟩, BM_of ht hP⟩, hS.F ht⟩) hS.2.2 d_Mo_power0_77))
  · skip
    have c56 : ¬ (kk ≤ 0) := fun h => c56 (by have := (nI_leI (by omega) (by omega)).mpr h; rwa [nI_0] at this)
    refine lv_aload_n hx hb d_Mo_power0_59 rfl (lv_at hl 0 rfl) ?_
    refine lv_aload_n hx hb d_Mo_power0_60 rfl (lv_at hl 0 rfl) ?_
    refine mw_gF8 hx hb hts hown hKW.1 hP lf_Mo_40 d_Mo_power0_61 ?_
    refine lv_iload_n hx hb d_Mo_power0_64 rfl (lv_at hl 3 rfl) ?_
    refine zV_v (As := [.ref (ad 38), .int (nI (kk))]) (rest := []) (n := 2) ⟨hx, hb, hml, hown, hts⟩ (c_Mo_raise l w3 _ (g := aG A i2) (n := kk) (by omega) (by omega) h33 hV3 (p2_fit (nb_le_iff.mp hpb) (by omega))) (cwV0 2 hts lm_Mo_137 im_Mo_raise se_Mo_raise in_Mo kq_Mo_raise rfl rfl rfl (by decide +kernel) ⟨Nat.le_of_ble_eq_true rfl, Nat.le_of_ble_eq_true rfl⟩) (recMo hKW.1 hP) hKW hP hD hS rfl hl.1 rfl (Nat.le_of_ble_eq_true rfl) d_Mo_power0_65 ⟨Nat.le_of_ble_eq_true rfl, Nat.le_of_ble_eq_true rfl⟩ (fun w4 H locs hp hP hD hS => ?_)
    obtain ⟨hE4, hV4, h34⟩ := hp
    have hM4 := hM3.same hE4 h34 (fun j hj => by simp only [List.mem_cons, List.not_mem_nil, or_false] at hj; omega)
    refine lv_aload_n hx hb d_Mo_power0_68 rfl (lv_at hl 0 rfl) ?_
    refine lv_iload_n hx hb d_Mo_power0_69 rfl (lv_at hl 1 rfl) ?_
    refine lv_aload_n hx hb d_Mo_power0_70 rfl (lv_at hl 0 rfl) ?_
    refine mw_gF6 hx hb hts hown hKW.1 hP lf_Mo_34 d_Mo_power0_71 ?_
    refine zV_i (As := [.int (nI (i1)), .ref (ad 34)]) (rest := []) (n := 2) ⟨hx, hb, hml, hown, hts⟩ (c_Mo_keep l w4 _ (x := i1) (a := 15) (by omega) (by omega) (by omega) h34 hV4) (cwV0 2 hts lm_Mo_83 im_Mo_keep se_Mo_keep in_Mo kq_Mo_keep rfl rfl rfl (by decide +kernel) ⟨Nat.le_of_ble_eq_true rfl, Nat.le_of_ble_eq_true rfl⟩) (recMo hKW.1 hP) hKW hP hD hS rfl hl.1 rfl (Nat.le_of_ble_eq_true rfl) d_Mo_power0_74 ⟨Nat.le_of_ble_eq_true rfl, Nat.le_of_ble_eq_true rfl⟩ (fun r w5 H locs hp hP hD hS => ?_)
    obtain ⟨er, hEk, hVk, h3k⟩ := hp
    subst er
    exact vx_ret (W.widen (k := 4) (n := 24) (Nat.le_of_ble_eq_true rfl) (Nat.le_of_ble_eq_true rfl) (W.iret (v := nI (nb (aG A i2 ^ kk))) hx hb hr (fun t ht hW => ⟨⟨_, w5, rfl, ⟨pG A i1 (aG A i2 ^ kk), hM4.put hEk h3k (fun j => one_i) hVk hpb, hEk.X.trans (hE4.X.trans (hE3.X.trans hE2.X)), by unfold sp_power; rw [wni1, wni2, wnkk, if_pos hrg, if_neg (by omega)]⟩, BM_of ht hP⟩, hS.F ht⟩) hS.2.2 d_Mo_power0_77))
set_option maxHeartbeats 4000000 in
set_option maxRecDepth 100000 in
/-- root0 -/
theorem c_Mo_root0 (l : Launch) {D : va_G} {cI cB cR : ClassId} {ad : Nat → Nat} (w : Mt) (sz : Nat) (hl9 : l.stackTraces = false) (x1 x2 n : Int32) (A : Ab) (hMI : MI w A) : vx_Met l y_Mo_root0 (q_Mo_root0 :: wA) { frames := 16, cells := 3, slots := 18, locals := 320 } (va_Pc [.ref (ad 0), .int (x1), .int (x2), .int (n)] (PM D cI cB cR ad w sz)) (va_Qi (fun (r : Int32) (w1 : Mt) => okm (mX w) (sp_root x1 x2 n A) r w1) (BM D cI cB cR ad) (AM ad sz)) (XM D cI cB cR ad (fun E u => thm9 (sp_root x1 x2 n A) E_IA E_IS E u) sz) 3 18 (AM ad sz) := by
  refine vx_ofW (cc := b_Mo_root0) (maxL := 4) (ret := (some (.int))) (by decide) rfl ?_
  intro p e s m args below meth c s₁ B hml htab hv
  obtain ⟨rfl, hsz, hP, hD0, hKW⟩ := hv
  have hx := B.exec
  have hb := B.bytes
  have hr := B.returns
  have hts := atoms_spec (ws := q_Mo_root0 :: wA) B.pre
  have hown : s.vm.findClass R_Mo = some m.cls := findClass_of_methodNamed B.named
  have hlocks := B.notSynchronized
  subst hsz
  have hD := NM_AM (sz := s.heap.size) hD0
  have hS : va_S (AM ad s.heap.size) s.heap s.heap [] := va_S.rf
  have hl := lv_entry ([.ref (ad 0), .int (x1), .int (x2), .int (n)]) (n := 4) (Nat.le_of_ble_eq_true rfl)
  rw [lg_entry_eq]
  generalize (lg_sl ([.ref (ad 0), .int (x1), .int (x2), .int (n)]) ++ List.replicate (4 - (lg_sl ([.ref (ad 0), .int (x1), .int (x2), .int (n)])).length) Slot.unset).toArray = ls at hl ⊢
  have hl : lv_has ls 4 [(0, .ref (ad 0)), (1, .int (x1)), (2, .int (x2)), (3, .int (n))] := hl
  have h3 := hMI.w3
  refine lv_iload_n hx hb d_Mo_root0_0 rfl (lv_at hl 1 rfl) ?_
  refine yS_v (As := [.int (x1)]) (rest := []) (n := 1) ⟨hx, hb, hml, hown, hts⟩ (c_Mo_named l w _ hl9 x1) (cwS0 1 hts lm_Mo_77 st_Mo_named in_Mo kq_Mo_named rfl rfl rfl (by decide +kernel) ⟨Nat.le_of_ble_eq_true rfl, Nat.le_of_ble_eq_true rfl⟩) hKW hP hD hS rfl hl.1 rfl (Nat.le_of_ble_eq_true rfl) d_Mo_root0_1 ⟨Nat.le_of_ble_eq_true rfl, Nat.le_of_ble_eq_true rfl⟩ htab hlocks ⟨Nat.le_of_ble_eq_true rfl, Nat.le_of_ble_eq_true rfl⟩ (fun E u h => by obtain ⟨hEx, hu, hn⟩ := h; subst hu; exact ⟨A, hMI, Or.inl ⟨hEx, if_neg (fun q => hn q.1)⟩⟩) (fun w1 H locs hp hP hD hS => ?_)
  obtain ⟨ew, hr1, hr2⟩ := hp
  rw [ew] at hP hD
  obtain ⟨i1, hi1, hvi1⟩ := reg_ix hr1 hr2
  subst hvi1
  have wni1 : wN (nI i1) = i1 := wN_small (by omega)
  refine lv_iload_n hx hb d_Mo_root0_4 rfl (lv_at hl 2 rfl) ?_
  refine yS_v (As := [.int (x2)]) (rest := []) (n := 1) ⟨hx, hb, hml, hown, hts⟩ (c_Mo_named l w _ hl9 x2) (cwS0 1 hts lm_Mo_77 st_Mo_named in_Mo kq_Mo_named rfl rfl rfl (by decide +kernel) ⟨Nat.le_of_ble_eq_true rfl, Nat.le_of_ble_eq_true rfl⟩) hKW hP hD hS rfl hl.1 rfl (Nat.le_of_ble_eq_true rfl) d_Mo_root0_5 ⟨Nat.le_of_ble_eq_true rfl, Nat.le_of_ble_eq_true rfl⟩ htab hlocks ⟨Nat.le_of_ble_eq_true rfl, Nat.le_of_ble_eq_true rfl⟩ (fun E u h => by obtain ⟨hEx, hu, hn⟩ := h; subst hu; exact ⟨A, hMI, Or.inl ⟨hEx, if_neg (fun q => hn q.2.1)⟩⟩) (fun w1 H locs hp hP hD hS => ?_)
  obtain ⟨ew, hr1, hr2⟩ := hp
  rw [ew] at hP hD
  obtain ⟨i2, hi2, hvi2⟩ := reg_ix hr1 hr2
  subst hvi2
  have wni2 : wN (nI i2) = i2 := wN_small (by omega)
  refine lv_iload_n hx hb d_Mo_root0_8 rfl (lv_at hl 3 rfl) ?_
  refine lv_iconst (v := nI (1)) hx hb d_Mo_root0_9 (by decide) ?_
  refine lv_bipush (v := nI (40)) hx hb d_Mo_root0_10 (by decide) ?_
  refine zS_i (As := [.int (n), .int (nI (1)), .int (nI (40))]) (rest := []) (n := 3) ⟨hx, hb, hml, hown, hts⟩ (c_Mo_in l w _ n (nI 1) (nI 40)) (cwS0 3 hts lm_Mo_56 st_Mo_in in_Mo kq_Mo_in rfl rfl rfl (by decide +kernel) ⟨Nat.le_of_ble_eq_true rfl, Nat.le_of_ble_eq_true rfl⟩) hKW hP hD hS rfl hl.1 rfl (Nat.le_of_ble_eq_true rfl) d_Mo_root0_12 ⟨Nat.le_of_ble_eq_true rfl, Nat.le_of_ble_eq_true rfl⟩ (fun r w1 H locs hp hP hD hS => ?_)
  obtain ⟨ew, hor⟩ := hp
  rw [ew] at hP hD
  refine yS_v (As := [.int (r)]) (rest := []) (n := 1) ⟨hx, hb, hml, hown, hts⟩ (c_Mo_check l w _ hl9 r) (cwS0 1 hts lm_Mo_60 st_Mo_check in_Mo kq_Mo_check rfl rfl rfl (by decide +kernel) ⟨Nat.le_of_ble_eq_true rfl, Nat.le_of_ble_eq_true rfl⟩) hKW hP hD hS rfl hl.1 rfl (Nat.le_of_ble_eq_true rfl) d_Mo_root0_15 ⟨Nat.le_of_ble_eq_true rfl, Nat.le_of_ble_eq_true rfl⟩ htab hlocks ⟨Nat.le_of_ble_eq_true rfl, Nat.le_of_ble_eq_true rfl⟩ (fun E u h => by obtain ⟨hEx, hu, hz⟩ := h; subst hu; exact ⟨A, hMI, Or.inl ⟨hEx, if_neg (fun q => by rcases hor with z | z; exact absurd (z.1.symm.trans hz) (by decide); exact z.2 q.2.2)⟩⟩) (fun w2 H locs hp hP hD hS => ?_)
  obtain ⟨ew, hne⟩ := hp
  rw [ew] at hP hD
  obtain ⟨hr1, hr2⟩ : (nI 1) ≤ n ∧ n ≤ (nI 40) := by rcases hor with z | z; exact z.2; exact absurd z.1 hne
  obtain ⟨kk, hkkl, hkkh, hvkk⟩ := rng_ix (a := 1) (b := 40) (by omega) hr1 hr2 (by omega)
  subst hvkk
  have wnkk : wN (nI kk) = kk := wN_small (by omega)
  have hbv := hMI.bits hi2
  have hrg : rg (nI i1) ∧ rg (nI i2) ∧ nI 1 ≤ nI kk ∧ nI kk ≤ nI 40 := ⟨rg_nI hi1, rg_nI hi2, hr1, hr2⟩
  have hrt := rootN_is (v := aG A i2) (n := kk) hkkl
  have hrb : nb (rootN (aG A i2) kk) ≤ 200000 := by
    refine Nat.le_trans (nb_mono ?_) hbv
    rcases Nat.eq_zero_or_pos (rootN (aG A i2) kk) with z | z
    · omega
    · refine Nat.le_trans ?_ hrt.1
      have := Nat.pow_le_pow_right z hkkl
      rwa [Nat.pow_one] at this
  refine lv_aload_n hx hb d_Mo_root0_18 rfl (lv_at hl 0 rfl) ?_
  refine mw_gF1 hx hb hts hown hKW.1 hP lf_Mo_18 d_Mo_root0_19 ?_
  refine lv_aload_n hx hb d_Mo_root0_22 rfl (lv_at hl 0 rfl) ?_
  refine mw_gF0 hx hb hts hown hKW.1 hP lf_Mo_11 d_Mo_root0_23 ?_
  refine lv_iload_n hx hb d_Mo_root0_26 rfl (lv_at hl 2 rfl) ?_
  refine mw_lG hx hb hKW.1 hP (j := i2) (by omega) d_Mo_root0_27 ?_
  refine zV_v (As := [.ref (ad (2 * i2 + 4))]) (rest := []) (n := 1) ⟨hx, hb, hml, hown, hts⟩ (c_Mn_set_N l w _ (i := 10) (a := i2) (by omega) (by omega) (by omega) h3 (hMI.reg hi2)) (cwV0 1 hts lm_Mo_69 im_Mn_set_N se_Mn_set_N in_Mn kq_Mn_set_N rfl rfl rfl (by decide +kernel) ⟨Nat.le_of_ble_eq_true rfl, Nat.le_of_ble_eq_true rfl⟩) (recMn hKW.1 hP (i := 10) (by omega)) hKW hP hD hS rfl hl.1 rfl (Nat.le_of_ble_eq_true rfl) d_Mo_root0_28 ⟨Nat.le_of_ble_eq_true rfl, Nat.le_of_ble_eq_true rfl⟩ (fun w2 H locs hp hP hD hS => ?_)
  obtain ⟨hE2, hV2, h32⟩ := hp
  have hM2 := hMI.same hE2 h32 (fun j => one10 (by omega))
  have hz2 := hV2.zero
  have hl2 := hV2.len
  obtain ⟨L9, hL9⟩ : ∃ L9, mL w2 10 = L9 := ⟨_, rfl⟩
  rw [hL9] at hz2 hl2
  refine lv_aload_n hx hb d_Mo_root0_31 rfl (lv_at hl 0 rfl) ?_
  refine mw_gF1 hx hb hts hown hKW.1 hP lf_Mo_18 d_Mo_root0_32 ?_
  refine mw_gL hx hb hts hown hKW.1 hP (i := 10) (by omega) (n := L9) hL9 lf_Mo_89 d_Mo_root0_35 ?_
  refine lv_if_ne (tgt := 51) hx hb d_Mo_root0_38 (by decide) (fun c38 => ?_) (fun c38 => ?_)
  · skip
    have c38 : ¬ (L9 = 0) := fun h => c38 (by have := (nI_eq (by omega) (by omega)).mpr h; rwa [nI_0] at this)
    have hv0 : aG A i2 ≠ 0 := fun q => c38 (hz2.mpr q)
    refine lv_aload_n hx hb d_Mo_root0_51 rfl (lv_at hl 0 rfl) ?_
    refine lv_iload_n hx hb d_Mo_root0_52 rfl (lv_at hl 3 rfl) ?_
    refine zV_i (As := [.int (nI (kk))]) (rest := []) (n := 1) ⟨hx, hb, hml, hown, hts⟩ (c_Mo_rootOf l w2 _ (v := aG A i2) (n := kk) hkkl hkkh h32 hV2 hv0 hbv) (cwV0 1 hts lm_Mo_156 im_Mo_rootOf se_Mo_rootOf in_Mo kq_Mo_rootOf rfl rfl rfl (by decide +kernel) ⟨Nat.le_of_ble_eq_true rfl, Nat.le_of_ble_eq_true rfl⟩) (recMo hKW.1 hP) hKW hP hD hS rfl hl.1 rfl (Nat.le_of_ble_eq_true rfl) d_Mo_root0_53 ⟨Nat.le_of_ble_eq_true rfl, Nat.le_of_ble_eq_true rfl⟩ (fun r w3 H locs hp hP hD hS => ?_)
    obtain ⟨hE3, hV3, h33⟩ := hp
    have hM3 := hM2.same hE3 h33 (fun j hj => by simp only [List.mem_cons, List.not_mem_nil, or_false] at hj; omega)
    refine lv_pop hx hb d_Mo_root0_56 rfl ?_
    refine lv_aload_n hx hb d_Mo_root0_57 rfl (lv_at hl 0 rfl) ?_
    refine lv_iload_n hx hb d_Mo_root0_58 rfl (lv_at hl 1 rfl) ?_
    refine lv_aload_n hx hb d_Mo_root0_59 rfl (lv_at hl 0 rfl) ?_
    refine mw_gF8 hx hb hts hown hKW.1 hP lf_Mo_40 d_Mo_root0_60 ?_
    refine zV_i (As := [.int (nI (i1)), .ref (ad 38)]) (rest := []) (n := 2) ⟨hx, hb, hml, hown, hts⟩ (c_Mo_keep l w3 _ (x := i1) (a := 17) (by omega) (by omega) (by omega) h33 hV3) (cwV0 2 hts lm_Mo_83 im_Mo_keep se_Mo_keep in_Mo kq_Mo_keep rfl rfl rfl (by decide +kernel) ⟨Nat.le_of_ble_eq_true rfl, Nat.le_of_ble_eq_true rfl⟩) (recMo hKW.1 hP) hKW hP hD hS rfl hl.1 rfl (Nat.le_of_ble_eq_true rfl) d_Mo_root0_63 ⟨Nat.le_of_ble_eq_true rfl, Nat.le_of_ble_eq_true rfl⟩ (fun r w5 H locs hp hP hD hS => ?_)
    obtain ⟨er, hEk, hVk, h3k⟩ := hp
    subst er
    exact vx_ret (W.widen (k := 3) (n := 18) (Nat.le_of_ble_eq_true rfl) (Nat.le_of_ble_eq_true rfl) (W.iret (v := nI (nb (rootN (aG A i2) kk))) hx hb hr (fun t ht hW => ⟨⟨_, w5, rfl, ⟨pG A i1 (rootN (aG A i2) kk), hM3.put hEk h3k (fun j => one_i) hVk hrb, hEk.X.trans (hE3.X.trans hE2.X), by unfold sp_root; rw [wni1, wni2, wnkk, if_pos hrg]⟩, BM_of ht hP⟩, hS.F ht⟩) hS.2.2 d_Mo_root0_66))
  · skip
    have c38 : L9 = 0 := (nI_eq (by omega) (by omega)).mp (by first | (rw [nI_0]; exact c38) | rw [nI_0])
    have hv0 : aG A i2 = 0 := hz2.mp c38
    have hr0 : rootN (aG A i2) kk = aG A i2 := by
      have h1 := hrt.1
      rw [hv0] at h1 ⊢
      rcases Nat.eq_zero_or_pos (rootN 0 kk) with q | q
      · exact q
      · have := Nat.pow_pos (n := kk) q
        omega
    refine lv_aload_n hx hb d_Mo_root0_41 rfl (lv_at hl 0 rfl) ?_
    refine lv_iload_n hx hb d_Mo_root0_42 rfl (lv_at hl 1 rfl) ?_
    refine lv_aload_n hx hb d_Mo_root0_43 rfl (lv_at hl 0 rfl) ?_
    refine mw_gF1 hx hb hts hown hKW.1 hP lf_Mo_18 d_Mo_root0_44 ?_
    refine zV_i (As := [.int (nI (i1)), .ref (ad 24)]) (rest := []) (n := 2) ⟨hx, hb, hml, hown, hts⟩ (c_Mo_keep l w2 _ (x := i1) (a := 10) (by omega) (by omega) (by omega) h32 hV2) (cwV0 2 hts lm_Mo_83 im_Mo_keep se_Mo_keep in_Mo kq_Mo_keep rfl rfl rfl (by decide +kernel) ⟨Nat.le_of_ble_eq_true rfl, Nat.le_of_ble_eq_true rfl⟩) (recMo hKW.1 hP) hKW hP hD hS rfl hl.1 rfl (Nat.le_of_ble_eq_true rfl) d_Mo_root0_47 ⟨Nat.le_of_ble_eq_true rfl, Nat.le_of_ble_eq_true rfl⟩ (fun r w5 H locs hp hP hD hS => ?_)
    obtain ⟨er, hEk, hVk, h3k⟩ := hp
    subst er
    exact vx_ret (W.widen (k := 3) (n := 18) (Nat.le_of_ble_eq_true rfl) (Nat.le_of_ble_eq_true rfl) (W.iret (v := nI (nb (aG A i2))) hx hb hr (fun t ht hW => ⟨⟨_, w5, rfl, ⟨pG A i1 (aG A i2), hM2.put hEk h3k (fun j => one_i) hVk hbv, hEk.X.trans hE2.X, by unfold sp_root; rw [wni1, wni2, wnkk, if_pos hrg, hr0]⟩, BM_of ht hP⟩, hS.F ht⟩) hS.2.2 d_Mo_root0_50))
set_option maxHeartbeats 4000000 in
set_option maxRecDepth 100000 in
/-- compare0 -/
theorem c_Mo_compare0 (l : Launch) {D : va_G} {cI cB cR : ClassId} {ad : Nat → Nat} (w : Mt) (sz : Nat) (hl9 : l.stackTraces = false) (x1 x2 : Int32) (A : Ab) (hMI : MI w A) : vx_Met l y_Mo_compare0 (q_Mo_compare0 :: wA) { frames := 12, cells := 2, slots := 12, locals := 260 } (va_Pc [.ref (ad 0), .int (x1), .int (x2)] (PM D cI cB cR ad w sz)) (va_Qi (fun (r : Int32) (w1 : Mt) => okm (mX w) (sp_compare x1 x2 A) r w1) (BM D cI cB cR ad) (AM ad sz)) (XM D cI cB cR ad (fun E u => thm9 (sp_compare x1 x2 A) E_IA E_IS E u) sz) 2 12 (AM ad sz) := by
  refine vx_ofW (cc := b_Mo_compare0) (maxL := 3) (ret := (some (.int))) (by decide) rfl ?_
  intro p e s m args below meth c s₁ B hml htab hv
  obtain ⟨rfl, hsz, hP, hD0, hKW⟩ := hv
  have hx := B.exec
  have hb := B.bytes
  have hr := B.returns
  have hts := atoms_spec (ws := q_Mo_compare0 :: wA) B.pre
  have hown : s.vm.findClass R_Mo = some m.cls := findClass_of_methodNamed B.named
  have hlocks := B.notSynchronized
  subst hsz
  have hD := NM_AM (sz := s.heap.size) hD0
  have hS : va_S (AM ad s.heap.size) s.heap s.heap [] := va_S.rf
  have hl := lv_entry ([.ref (ad 0), .int (x1), .int (x2)]) (n := 3) (Nat.le_of_ble_eq_true rfl)
  rw [lg_entry_eq]
  generalize (lg_sl ([.ref (ad 0), .int (x1), .int (x2)]) ++ List.replicate (3 - (lg_sl ([.ref (ad 0), .int (x1), .int (x2)])).length) Slot.unset).toArray = ls at hl ⊢
  have hl : lv_has ls 3 [(0, .ref (ad 0)), (1, .int (x1)), (2, .int (x2))] := hl
  have h3 := hMI.w3
  refine lv_iload_n hx hb d_Mo_compare0_0 rfl (lv_at hl 1 rfl) ?_
  refine yS_v (As := [.int (x1)]) (rest := []) (n := 1) ⟨hx, hb, hml, hown, hts⟩ (c_Mo_named l w _ hl9 x1) (cwS0 1 hts lm_Mo_77 st_Mo_named in_Mo kq_Mo_named rfl rfl rfl (by decide +kernel) ⟨Nat.le_of_ble_eq_true rfl, Nat.le_of_ble_eq_true rfl⟩) hKW hP hD hS rfl hl.1 rfl (Nat.le_of_ble_eq_true rfl) d_Mo_compare0_1 ⟨Nat.le_of_ble_eq_true rfl, Nat.le_of_ble_eq_true rfl⟩ htab hlocks ⟨Nat.le_of_ble_eq_true rfl, Nat.le_of_ble_eq_true rfl⟩ (fun E u h => by obtain ⟨hEx, hu, hn⟩ := h; subst hu; exact ⟨A, hMI, Or.inl ⟨hEx, if_neg (fun q => hn q.1)⟩⟩) (fun w1 H locs hp hP hD hS => ?_)
  obtain ⟨ew, hr1, hr2⟩ := hp
  rw [ew] at hP hD
  obtain ⟨i1, hi1, hvi1⟩ := reg_ix hr1 hr2
  subst hvi1
  have wni1 : wN (nI i1) = i1 := wN_small (by omega)
  refine lv_iload_n hx hb d_Mo_compare0_4 rfl (lv_at hl 2 rfl) ?_
  refine yS_v (As := [.int (x2)]) (rest := []) (n := 1) ⟨hx, hb, hml, hown, hts⟩ (c_Mo_named l w _ hl9 x2) (cwS0 1 hts lm_Mo_77 st_Mo_named in_Mo kq_Mo_named rfl rfl rfl (by decide +kernel) ⟨Nat.le_of_ble_eq_true rfl, Nat.le_of_ble_eq_true rfl⟩) hKW hP hD hS rfl hl.1 rfl (Nat.le_of_ble_eq_true rfl) d_Mo_compare0_5 ⟨Nat.le_of_ble_eq_true rfl, Nat.le_of_ble_eq_true rfl⟩ htab hlocks ⟨Nat.le_of_ble_eq_true rfl, Nat.le_of_ble_eq_true rfl⟩ (fun E u h => by obtain ⟨hEx, hu, hn⟩ := h; subst hu; exact ⟨A, hMI, Or.inl ⟨hEx, if_neg (fun q => hn q.2)⟩⟩) (fun w1 H locs hp hP hD hS => ?_)
  obtain ⟨ew, hr1, hr2⟩ := hp
  rw [ew] at hP hD
  obtain ⟨i2, hi2, hvi2⟩ := reg_ix hr1 hr2
  subst hvi2
  have wni2 : wN (nI i2) = i2 := wN_small (by omega)
  refine lv_aload_n hx hb d_Mo_compare0_8 rfl (lv_at hl 0 rfl) ?_
  refine mw_gF0 hx hb hts hown hKW.1 hP lf_Mo_11 d_Mo_compare0_9 ?_
  refine lv_iload_n hx hb d_Mo_compare0_12 rfl (lv_at hl 1 rfl) ?_
  refine mw_lG hx hb hKW.1 hP (j := i1) (by omega) d_Mo_compare0_13 ?_
  refine lv_aload_n hx hb d_Mo_compare0_14 rfl (lv_at hl 0 rfl) ?_
  refine mw_gF0 hx hb hts hown hKW.1 hP lf_Mo_11 d_Mo_compare0_15 ?_
  refine lv_iload_n hx hb d_Mo_compare0_18 rfl (lv_at hl 2 rfl) ?_
  refine mw_lG hx hb hKW.1 hP (j := i2) (by omega) d_Mo_compare0_19 ?_
  refine zV_i (As := [.ref (ad (2 * i2 + 4))]) (rest := []) (n := 1) ⟨hx, hb, hml, hown, hts⟩ (c_Mn_compare l w _ (i := i1) (b := i2) (by omega) (by omega) h3 (hMI.reg hi1) (hMI.reg hi2)) (cwV0 1 hts lm_Mo_105 im_Mn_compare se_Mn_compare in_Mn kq_Mn_compare rfl rfl rfl (by decide +kernel) ⟨Nat.le_of_ble_eq_true rfl, Nat.le_of_ble_eq_true rfl⟩) (recMn hKW.1 hP (i := i1) (by omega)) hKW hP hD hS rfl hl.1 rfl (Nat.le_of_ble_eq_true rfl) d_Mo_compare0_20 ⟨Nat.le_of_ble_eq_true rfl, Nat.le_of_ble_eq_true rfl⟩ (fun r w2 H locs hp hP hD hS => ?_)
  obtain ⟨er, ew⟩ := hp
  rw [ew] at hP hD
  subst er
  exact vx_ret (W.widen (k := 2) (n := 12) (Nat.le_of_ble_eq_true rfl) (Nat.le_of_ble_eq_true rfl) (W.iret (v := cmpN (aG A i1) (aG A i2)) hx hb hr (fun t ht hW => ⟨⟨_, w, rfl, ⟨A, hMI, rfl, by unfold sp_compare; rw [wni1, wni2, if_pos ⟨rg_nI hi1, rg_nI hi2⟩]⟩, BM_of ht hP⟩, hS.F ht⟩) hS.2.2 d_Mo_compare0_23))
set_option maxHeartbeats 4000000 in
set_option maxRecDepth 100000 in
/-- bits0 -/
theorem c_Mo_bits0 (l : Launch) {D : va_G} {cI cB cR : ClassId} {ad : Nat → Nat} (w : Mt) (sz : Nat) (hl9 : l.stackTraces = false) (x1 : Int32) (A : Ab) (hMI : MI w A) : vx_Met l y_Mo_bits0 (q_Mo_bits0 :: wA) { frames := 12, cells := 1, slots := 6, locals := 260 } (va_Pc [.ref (ad 0), .int (x1)] (PM D cI cB cR ad w sz)) (va_Qi (fun (r : Int32) (w1 : Mt) => okm (mX w) (sp_bits x1 A) r w1) (BM D cI cB cR ad) (AM ad sz)) (XM D cI cB cR ad (fun E u => thm9 (sp_bits x1 A) E_IA E_IS E u) sz) 1 6 (AM ad sz) := by
  refine vx_ofW (cc := b_Mo_bits0) (maxL := 2) (ret := (some (.int))) (by decide) rfl ?_
  intro p e s m args below meth c s₁ B hml htab hv
  obtain ⟨rfl, hsz, hP, hD0, hKW⟩ := hv
  have hx := B.exec
  have hb := B.bytes
  have hr := B.returns
  have hts := atoms_spec (ws := q_Mo_bits0 :: wA) B.pre
  have hown : s.vm.findClass R_Mo = some m.cls := findClass_of_methodNamed B.named
  have hlocks := B.notSynchronized
  subst hsz
  have hD := NM_AM (sz := s.heap.size) hD0
  have hS : va_S (AM ad s.heap.size) s.heap s.heap [] := va_S.rf
  have hl := lv_entry ([.ref (ad 0), .int (x1)]) (n := 2) (Nat.le_of_ble_eq_true rfl)
  rw [lg_entry_eq]
  generalize (lg_sl ([.ref (ad 0), .int (x1)]) ++ List.replicate (2 - (lg_sl ([.ref (ad 0), .int (x1)])).length) Slot.unset).toArray = ls at hl ⊢
  have hl : lv_has ls 2 [(0, .ref (ad 0)), (1, .int (x1))] := hl
  have h3 := hMI.w3
  refine lv_iload_n hx hb d_Mo_bits0_0 rfl (lv_at hl 1 rfl) ?_
  refine yS_v (As := [.int (x1)]) (rest := []) (n := 1) ⟨hx, hb, hml, hown, hts⟩ (c_Mo_named l w _ hl9 x1) (cwS0 1 hts lm_Mo_77 st_Mo_named in_Mo kq_Mo_named rfl rfl rfl (by decide +kernel) ⟨Nat.le_of_ble_eq_true rfl, Nat.le_of_ble_eq_true rfl⟩) hKW hP hD hS rfl hl.1 rfl (Nat.le_of_ble_eq_true rfl) d_Mo_bits0_1 ⟨Nat.le_of_ble_eq_true rfl, Nat.le_of_ble_eq_true rfl⟩ htab hlocks ⟨Nat.le_of_ble_eq_true rfl, Nat.le_of_ble_eq_true rfl⟩ (fun E u h => by obtain ⟨hEx, hu, hn⟩ := h; subst hu; exact ⟨A, hMI, Or.inl ⟨hEx, if_neg (fun q => hn q)⟩⟩) (fun w1 H locs hp hP hD hS => ?_)
  obtain ⟨ew, hr1, hr2⟩ := hp
  rw [ew] at hP hD
  obtain ⟨i1, hi1, hvi1⟩ := reg_ix hr1 hr2
  subst hvi1
  have wni1 : wN (nI i1) = i1 := wN_small (by omega)
  refine lv_aload_n hx hb d_Mo_bits0_4 rfl (lv_at hl 0 rfl) ?_
  refine mw_gF0 hx hb hts hown hKW.1 hP lf_Mo_11 d_Mo_bits0_5 ?_
  refine lv_iload_n hx hb d_Mo_bits0_8 rfl (lv_at hl 1 rfl) ?_
  refine mw_lG hx hb hKW.1 hP (j := i1) (by omega) d_Mo_bits0_9 ?_
  refine zV_i (As := []) (rest := []) (n := 0) ⟨hx, hb, hml, hown, hts⟩ (c_Mn_bits l w _ (i := i1) (by omega) h3 (hMI.reg hi1)) (cwV0 0 hts lm_Mo_73 im_Mn_bits se_Mn_bits in_Mn kq_Mn_bits rfl rfl rfl (by decide +kernel) ⟨Nat.le_of_ble_eq_true rfl, Nat.le_of_ble_eq_true rfl⟩) (recMn hKW.1 hP (i := i1) (by omega)) hKW hP hD hS rfl hl.1 rfl (Nat.le_of_ble_eq_true rfl) d_Mo_bits0_10 ⟨Nat.le_of_ble_eq_true rfl, Nat.le_of_ble_eq_true rfl⟩ (fun r w2 H locs hp hP hD hS => ?_)
  obtain ⟨er, ew⟩ := hp
  rw [ew] at hP hD
  subst er
  exact vx_ret (W.widen (k := 1) (n := 6) (Nat.le_of_ble_eq_true rfl) (Nat.le_of_ble_eq_true rfl) (W.iret (v := nI (nb (aG A i1))) hx hb hr (fun t ht hW => ⟨⟨_, w, rfl, ⟨A, hMI, rfl, by unfold sp_bits; rw [wni1, if_pos (rg_nI hi1)]⟩, BM_of ht hP⟩, hS.F ht⟩) hS.2.2 d_Mo_bits0_13))
set_option maxHeartbeats 4000000 in
set_option maxRecDepth 100000 in
/-- word0 -/
theorem c_Mo_word0 (l : Launch) {D : va_G} {cI cB cR : ClassId} {ad : Nat → Nat} (w : Mt) (sz : Nat) (hl9 : l.stackTraces = false) (x1 x2 : Int32) (A : Ab) (hMI : MI w A) : vx_Met l y_Mo_word0 (q_Mo_word0 :: wA) { frames := 12, cells := 2, slots := 12, locals := 260 } (va_Pc [.ref (ad 0), .int (x1), .int (x2)] (PM D cI cB cR ad w sz)) (va_Ql (fun (r : Int64) (w1 : Mt) => okml (mX w) (sp_word x1 x2 A) r w1) (BM D cI cB cR ad) (AM ad sz)) (XM D cI cB cR ad (fun E u => thml (sp_word x1 x2 A) E_IA E_IS E u) sz) 2 12 (AM ad sz) := by
  refine vx_ofW (cc := b_Mo_word0) (maxL := 6) (ret := (some (.long))) (by decide) rfl ?_
  intro p e s m args below meth c s₁ B hml htab hv
  obtain ⟨rfl, hsz, hP, hD0, hKW⟩ := hv
  have hx := B.exec
  have hb := B.bytes
  have hr := B.returns
  have hts := atoms_spec (ws := q_Mo_word0 :: wA) B.pre
  have hown : s.vm.findClass R_Mo = some m.cls := findClass_of_methodNamed B.named
  have hlocks := B.notSynchronized
  subst hsz
  have hD := NM_AM (sz := s.heap.size) hD0
  have hS : va_S (AM ad s.heap.size) s.heap s.heap [] := va_S.rf
  have hl := lv_entry ([.ref (ad 0), .int (x1), .int (x2)]) (n := 6) (Nat.le_of_ble_eq_true rfl)
  rw [lg_entry_eq]
  generalize (lg_sl ([.ref (ad 0), .int (x1), .int (x2)]) ++ List.replicate (6 - (lg_sl ([.ref (ad 0), .int (x1), .int (x2)])).length) Slot.unset).toArray = ls at hl ⊢
  have hl : lv_has ls 6 [(0, .ref (ad 0)), (1, .int (x1)), (2, .int (x2))] := hl
  have h3 := hMI.w3
  refine lv_iload_n hx hb d_Mo_word0_0 rfl (lv_at hl 1 rfl) ?_
  refine yS_v (As := [.int (x1)]) (rest := []) (n := 1) ⟨hx, hb, hml, hown, hts⟩ (c_Mo_named l w _ hl9 x1) (cwS0 1 hts lm_Mo_77 st_Mo_named in_Mo kq_Mo_named rfl rfl rfl (by decide +kernel) ⟨Nat.le_of_ble_eq_true rfl, Nat.le_of_ble_eq_true rfl⟩) hKW hP hD hS rfl hl.1 rfl (Nat.le_of_ble_eq_true rfl) d_Mo_word0_1 ⟨Nat.le_of_ble_eq_true rfl, Nat.le_of_ble_eq_true rfl⟩ htab hlocks ⟨Nat.le_of_ble_eq_true rfl, Nat.le_of_ble_eq_true rfl⟩ (fun E u h => by obtain ⟨hEx, hu, hn⟩ := h; subst hu; exact ⟨A, hMI, Or.inl ⟨hEx, if_neg (fun q => hn q.1)⟩⟩) (fun w1 H locs hp hP hD hS => ?_)
  obtain ⟨ew, hr1, hr2⟩ := hp
  rw [ew] at hP hD
  obtain ⟨i1, hi1, hvi1⟩ := reg_ix hr1 hr2
  subst hvi1
  have wni1 : wN (nI i1) = i1 := wN_small (by omega)
  refine lv_iload_n hx hb d_Mo_word0_4 rfl (lv_at hl 2 rfl) ?_
  refine lv_iconst (v := nI (0)) hx hb d_Mo_word0_5 (by decide) ?_
  refine lv_sipush (v := nI (6249)) hx hb d_Mo_word0_6 (by decide) ?_
  refine zS_i (As := [.int (x2), .int (nI (0)), .int (nI (6249))]) (rest := []) (n := 3) ⟨hx, hb, hml, hown, hts⟩ (c_Mo_in l w _ x2 (nI 0) (nI 6249)) (cwS0 3 hts lm_Mo_56 st_Mo_in in_Mo kq_Mo_in rfl rfl rfl (by decide +kernel) ⟨Nat.le_of_ble_eq_true rfl, Nat.le_of_ble_eq_true rfl⟩) hKW hP hD hS rfl hl.1 rfl (Nat.le_of_ble_eq_true rfl) d_Mo_word0_9 ⟨Nat.le_of_ble_eq_true rfl, Nat.le_of_ble_eq_true rfl⟩ (fun r w1 H locs hp hP hD hS => ?_)
  obtain ⟨ew, hor⟩ := hp
  rw [ew] at hP hD
  refine yS_v (As := [.int (r)]) (rest := []) (n := 1) ⟨hx, hb, hml, hown, hts⟩ (c_Mo_check l w _ hl9 r) (cwS0 1 hts lm_Mo_60 st_Mo_check in_Mo kq_Mo_check rfl rfl rfl (by decide +kernel) ⟨Nat.le_of_ble_eq_true rfl, Nat.le_of_ble_eq_true rfl⟩) hKW hP hD hS rfl hl.1 rfl (Nat.le_of_ble_eq_true rfl) d_Mo_word0_12 ⟨Nat.le_of_ble_eq_true rfl, Nat.le_of_ble_eq_true rfl⟩ htab hlocks ⟨Nat.le_of_ble_eq_true rfl, Nat.le_of_ble_eq_true rfl⟩ (fun E u h => by obtain ⟨hEx, hu, hz⟩ := h; subst hu; exact ⟨A, hMI, Or.inl ⟨hEx, if_neg (fun q => by rcases hor with z | z; exact absurd (z.1.symm.trans hz) (by decide); exact z.2 q.2)⟩⟩) (fun w2 H locs hp hP hD hS => ?_)
  obtain ⟨ew, hne⟩ := hp
  rw [ew] at hP hD
  obtain ⟨hr1, hr2⟩ : (nI 0) ≤ x2 ∧ x2 ≤ (nI 6249) := by rcases hor with z | z; exact z.2; exact absurd z.1 hne
  obtain ⟨kk, hkkl, hkkh, hvkk⟩ := rng_ix (a := 0) (b := 6249) (by omega) hr1 hr2 (by omega)
  subst hvkk
  have wnkk : wN (nI kk) = kk := wN_small (by omega)
  have hrg : rg (nI i1) ∧ nI 0 ≤ nI kk ∧ nI kk ≤ nI 6249 := ⟨rg_nI hi1, hr1, hr2⟩
  obtain ⟨X, hX⟩ : ∃ X, X = aG A i1 / 2 ^ (32 * kk) := ⟨_, rfl⟩
  refine lv_lconst (v := lN (0)) hx hb d_Mo_word0_15 (by decide) ?_
  refine lv_lstore_n (lv' := [(3, .long (lN (0))), (0, .ref (ad 0)), (1, .int (nI (i1))), (2, .int (nI (kk)))]) hx hb d_Mo_word0_16 rfl hl (by decide) rfl (fun ls hl => ?_)
  refine lv_bipush (v := nI (31)) hx hb d_Mo_word0_17 (by decide) ?_
  refine lv_istore (lv' := [(5, .int (nI (31))), (3, .long (lN (0))), (0, .ref (ad 0)), (1, .int (nI (i1))), (2, .int (nI (kk)))]) hx hb d_Mo_word0_19 hl (by decide) rfl (fun ls hl => ?_)
  have loop : ∀ (j y : Nat) (H : Heap) (locs : List Loc) (ls : Array Slot), j ≤ 32 → y = X / 2 ^ j % 2 ^ (32 - j) → va_P D clA (NM cI cB cR ad (w)) H → va_D (AM ad s.heap.size) (NM cI cB cR ad (w)) → va_S (AM ad s.heap.size) s.heap H locs → lv_has ls 6 [(5, .int (dn j)), (3, .long (lN (y))), (0, .ref (ad 0)), (1, .int (nI (i1))), (2, .int (nI (kk)))] → W p l e (headSpec (q_Mo_word0 :: wA) { frames := 12, cells := 2, slots := 12, locals := 260 }).room s m ([.ref (ad 0), .int (nI (i1)), .int (nI (kk))] : List Value).toArray below meth c H locs (0 + 1 + 1) (0 + 6 + 6) (vx_MQ below (va_Ql (fun (r : Int64) (w1 : Mt) => okml (mX w) (sp_word (nI i1) (nI kk) A) r w1) (BM D cI cB cR ad) (AM ad s.heap.size)) (XM D cI cB cR ad (fun E u => thml (sp_word (nI i1) (nI kk) A) E_IA E_IS E u) s.heap.size) ([.ref (ad 0), .int (nI (i1)), .int (nI (kk))] : List Value).toArray s 2 12 (AM ad s.heap.size)) (F0 m 21 ls []) := by
    intro j
    induction j with
    | zero =>
      intro y H locs ls hj hy hP hD hS hl
      refine lv_iload hx hb d_Mo_word0_21 (lv_at hl 0 rfl) ?_
      refine lv_if_lt (tgt := 64) hx hb d_Mo_word0_23 (by decide) (fun c23 => ?_) (fun c23 => ?_)
      · skip
        refine lv_lload_n hx hb d_Mo_word0_64 rfl (lv_at hl 1 rfl) ?_
        rw [Nat.pow_zero, Nat.div_one] at hy
        exact vx_ret (W.widen (k := 2) (n := 12) (Nat.le_of_ble_eq_true rfl) (Nat.le_of_ble_eq_true rfl) (W.lret (v := lN (y)) hx hb hr (fun t ht hW => ⟨⟨_, w, rfl, ⟨A, hMI, rfl, by unfold sp_word; rw [wni1, wnkk, if_pos hrg, hy, hX, pwB]⟩, BM_of ht hP⟩, hS.F ht⟩) hS.2.2 d_Mo_word0_65))
      · exact absurd dn_0 c23
    | succ j ih =>
      intro y H locs ls hj hy hP hD hS hl
      refine lv_iload hx hb d_Mo_word0_21 (lv_at hl 0 rfl) ?_
      refine lv_if_lt (tgt := 64) hx hb d_Mo_word0_23 (by decide) (fun c23 => ?_) (fun c23 => ?_)
      · exact absurd c23 (nI_pos (by omega))
      · skip
        have hst := wd_step (X := X) (y := y) (j := j) (by omega) (by rw [hy, show 32 - (j + 1) = 31 - j by omega])
        have hyl : y < 2 ^ 32 := Nat.lt_of_lt_of_le (by rw [hy]; exact Nat.mod_lt _ (Nat.pow_pos (by decide))) (Nat.pow_le_pow_right (by decide) (by omega))
        have hbit : aG A i1 / 2 ^ (32 * kk + j) % 2 = X / 2 ^ j % 2 := by rw [hX, Nat.div_div_eq_div_mul, ← Nat.pow_add]
        refine lv_ldc2 (v := lN 2) hx hb hown (hA_ hts ll_Mo_160) d_Mo_word0_26 ?_
        refine lv_lload_n hx hb d_Mo_word0_29 rfl (lv_at hl 1 rfl) ?_
        refine nw_lmul (v := lN (2 * y)) hx hb d_Mo_word0_30 (lN_mul _ _) ?_
        refine lv_aload_n hx hb d_Mo_word0_31 rfl (lv_at hl 2 rfl) ?_
        refine mw_gF0 hx hb hts hown hKW.1 hP lf_Mo_11 d_Mo_word0_32 ?_
        refine lv_iload_n hx hb d_Mo_word0_35 rfl (lv_at hl 3 rfl) ?_
        refine mw_lG hx hb hKW.1 hP (j := i1) (by omega) d_Mo_word0_36 ?_
        refine lv_bipush (v := nI (32)) hx hb d_Mo_word0_37 (by decide) ?_
        refine lv_iload_n hx hb d_Mo_word0_39 rfl (lv_at hl 4 rfl) ?_
        refine nw_imul (v := nI (32 * kk)) hx hb d_Mo_word0_40 (pk_mul _ _) ?_
        refine lv_iload hx hb d_Mo_word0_41 (lv_at hl 0 rfl) ?_
        refine nw_iadd (v := nI (32 * kk + j)) hx hb d_Mo_word0_43 (nI_add _ _) ?_
        refine zV_i (As := [.int (nI (32 * kk + j))]) (rest := [.long (lN (2 * y))]) (n := 1) ⟨hx, hb, hml, hown, hts⟩ (c_Mn_bit l w _ (i := i1) (k := 32 * kk + j) (by omega) h3 (hMI.reg hi1) (by omega)) (cwV0 1 hts lm_Mo_162 im_Mn_bit se_Mn_bit in_Mn kq_Mn_bit rfl rfl rfl (by decide +kernel) ⟨Nat.le_of_ble_eq_true rfl, Nat.le_of_ble_eq_true rfl⟩) (recMn hKW.1 hP (i := i1) (by omega)) hKW hP hD hS rfl hl.1 rfl (Nat.le_of_ble_eq_true rfl) d_Mo_word0_44 ⟨Nat.le_of_ble_eq_true rfl, Nat.le_of_ble_eq_true rfl⟩ (fun r w2 H locs hp hP hD hS => ?_)
        obtain ⟨er, ew⟩ := hp
        rw [ew] at hP hD
        rw [hbit] at er
        subst er
        have hb2 : X / 2 ^ j % 2 < 2 := Nat.mod_lt _ (by decide)
        refine lv_if_eq (tgt := 54) hx hb d_Mo_word0_47 (by decide) (fun c47 => ?_) (fun c47 => ?_)
        · skip
          have c47 : X / 2 ^ j % 2 = 0 := (nI_eq (by omega) (by omega)).mp (by first | (rw [nI_0]; exact c47) | rw [nI_0])
          refine lv_iconst (v := nI (0)) hx hb d_Mo_word0_54 (by decide) ?_
          refine lv_i2l (v := lN (0)) hx hb d_Mo_word0_55 (nI_l (by omega)) ?_
          refine nw_ladd (v := lN (2 * y + 0)) hx hb d_Mo_word0_56 (lN_add _ _) ?_
          refine lv_lstore_n (lv' := [(3, .long (lN (2 * y + 0))), (5, .int (nI (j))), (0, .ref (ad 0)), (1, .int (nI (i1))), (2, .int (nI (kk)))]) hx hb d_Mo_word0_57 rfl hl (by decide) rfl (fun ls hl => ?_)
          refine lv_iinc (v := dn j) (lv' := [(5, .int (dn j)), (3, .long (lN (2 * y + 0))), (0, .ref (ad 0)), (1, .int (nI (i1))), (2, .int (nI (kk)))]) hx hb d_Mo_word0_58 hl (k := 1) rfl (dn_dec j) (by decide) rfl (fun ls hl => ?_)
          refine lv_goto (tgt := 21) hx hb d_Mo_word0_61 (by decide) ?_
          exact ih _ H locs ls (by omega) (by omega) hP hD hS (lv_sub hl [0, 1, 2, 3, 4] rfl)
        · skip
          have c47 : ¬ (X / 2 ^ j % 2 = 0) := fun h => c47 (by have := (nI_eq (by omega) (by omega)).mpr h; rwa [nI_0] at this)
          refine lv_iconst (v := nI (1)) hx hb d_Mo_word0_50 (by decide) ?_
          refine lv_goto (tgt := 55) hx hb d_Mo_word0_51 (by decide) ?_
          refine lv_i2l (v := lN (1)) hx hb d_Mo_word0_55 (nI_l (by omega)) ?_
          refine nw_ladd (v := lN (2 * y + 1)) hx hb d_Mo_word0_56 (lN_add _ _) ?_
          refine lv_lstore_n (lv' := [(3, .long (lN (2 * y + 1))), (5, .int (nI (j))), (0, .ref (ad 0)), (1, .int (nI (i1))), (2, .int (nI (kk)))]) hx hb d_Mo_word0_57 rfl hl (by decide) rfl (fun ls hl => ?_)
          refine lv_iinc (v := dn j) (lv' := [(5, .int (dn j)), (3, .long (lN (2 * y + 1))), (0, .ref (ad 0)), (1, .int (nI (i1))), (2, .int (nI (kk)))]) hx hb d_Mo_word0_58 hl (k := 1) rfl (dn_dec j) (by decide) rfl (fun ls hl => ?_)
          refine lv_goto (tgt := 21) hx hb d_Mo_word0_61 (by decide) ?_
          exact ih _ H locs ls (by omega) (by omega) hP hD hS (lv_sub hl [0, 1, 2, 3, 4] rfl)
  exact loop 32 0 _ _ ls (Nat.le_refl _) (by rw [Nat.sub_self, Nat.pow_zero, Nat.mod_one]) hP hD hS (lv_sub hl [0, 1, 2, 3, 4] rfl)
set_option maxHeartbeats 4000000 in
set_option maxRecDepth 100000 in
/-- end0 -/
theorem c_Mo_end0 (l : Launch) {D : va_G} {cI cB cR : ClassId} {ad : Nat → Nat} (w : Mt) (sz : Nat) (hl9 : l.stackTraces = false) (n : Int32) (A : Ab) (hMI : MI w A) : vx_Met l y_Mo_end0 (q_Mo_end0 :: wA) { frames := 12, cells := 1, slots := 6, locals := 260 } (va_Pc [.ref (ad 0), .int (n)] (PM D cI cB cR ad w sz)) (va_Qi (fun (r : Int32) (w1 : Mt) => okm (mX w) (sp_end n A) r w1) (BM D cI cB cR ad) (AM ad sz)) (XM D cI cB cR ad (fun E u => thm9 (sp_end n A) E_IA E_IS E u) sz) 1 6 (AM ad sz) := by
  refine vx_ofW (cc := b_Mo_end0) (maxL := 3) (ret := (some (.int))) (by decide) rfl ?_
  intro p e s m args below meth c s₁ B hml htab hv
  obtain ⟨rfl, hsz, hP, hD0, hKW⟩ := hv
  have hx := B.exec
  have hb := B.bytes
  have hr := B.returns
  have hts := atoms_spec (ws := q_Mo_end0 :: wA) B.pre
  have hown : s.vm.findClass R_Mo = some m.cls := findClass_of_methodNamed B.named
  have hlocks := B.notSynchronized
  subst hsz
  have hD := NM_AM (sz := s.heap.size) hD0
  have hS : va_S (AM ad s.heap.size) s.heap s.heap [] := va_S.rf
  have hl := lv_entry ([.ref (ad 0), .int (n)]) (n := 3) (Nat.le_of_ble_eq_true rfl)
  rw [lg_entry_eq]
  generalize (lg_sl ([.ref (ad 0), .int (n)]) ++ List.replicate (3 - (lg_sl ([.ref (ad 0), .int (n)])).length) Slot.unset).toArray = ls at hl ⊢
  have hl : lv_has ls 3 [(0, .ref (ad 0)), (1, .int (n))] := hl
  have h3 := hMI.w3
  obtain ⟨hsA, hn9, hTT⟩ := hMI.2.2.1
  refine lv_iload_n hx hb d_Mo_end0_0 rfl (lv_at hl 1 rfl) ?_
  refine lv_iconst (v := nI (0)) hx hb d_Mo_end0_1 (by decide) ?_
  refine lv_aload_n hx hb d_Mo_end0_2 rfl (lv_at hl 0 rfl) ?_
  refine mw_gF12 hx hb hts hown hKW.1 hP (n := aN A) hsA lf_Mo_165 d_Mo_end0_3 ?_
  refine zS_i (As := [.int (n), .int (nI (0)), .int (nI (aN A))]) (rest := []) (n := 3) ⟨hx, hb, hml, hown, hts⟩ (c_Mo_in l w _ n (nI 0) (nI (aN A))) (cwS0 3 hts lm_Mo_56 st_Mo_in in_Mo kq_Mo_in rfl rfl rfl (by decide +kernel) ⟨Nat.le_of_ble_eq_true rfl, Nat.le_of_ble_eq_true rfl⟩) hKW hP hD hS rfl hl.1 rfl (Nat.le_of_ble_eq_true rfl) d_Mo_end0_6 ⟨Nat.zero_le _, Nat.zero_le _⟩ (fun r w1 H locs hp hP hD hS => ?_)
  obtain ⟨ew, hor⟩ := hp
  rw [ew] at hP hD
  refine yS_v (As := [.int (r)]) (rest := []) (n := 1) ⟨hx, hb, hml, hown, hts⟩ (c_Mo_check l w _ hl9 r) (cwS0 1 hts lm_Mo_60 st_Mo_check in_Mo kq_Mo_check rfl rfl rfl (by decide +kernel) ⟨Nat.le_of_ble_eq_true rfl, Nat.le_of_ble_eq_true rfl⟩) hKW hP hD hS rfl hl.1 rfl (Nat.le_of_ble_eq_true rfl) d_Mo_end0_9 ⟨Nat.le_of_ble_eq_true rfl, Nat.le_of_ble_eq_true rfl⟩ htab hlocks ⟨Nat.le_of_ble_eq_true rfl, Nat.le_of_ble_eq_true rfl⟩ (fun E u h => by obtain ⟨hEx, hu, hz⟩ := h; subst hu; exact ⟨A, hMI, Or.inl ⟨hEx, if_neg (fun q => by rcases hor with z | z; exact absurd (z.1.symm.trans hz) (by decide); exact z.2 q)⟩⟩) (fun w2 H locs hp hP hD hS => ?_)
  obtain ⟨ew, hne⟩ := hp
  rw [ew] at hP hD
  obtain ⟨hr1, hr2⟩ : (nI 0) ≤ n ∧ n ≤ (nI (aN A)) := by rcases hor with z | z; exact z.2; exact absurd z.1 hne
  obtain ⟨kk, hkkl, hkkh, hvkk⟩ := rng_ix (a := 0) (b := aN A) (by omega) hr1 hr2 (by omega)
  subst hvkk
  have wnkk : wN (nI kk) = kk := wN_small (by omega)
  have hrg : nI 0 ≤ nI kk ∧ nI kk ≤ nI (aN A) := ⟨hr1, hr2⟩
  refine lv_aload_n hx hb d_Mo_end0_12 rfl (lv_at hl 0 rfl) ?_
  refine mw_gF12 hx hb hts hown hKW.1 hP (n := aN A) hsA lf_Mo_165 d_Mo_end0_13 ?_
  refine lv_iload_n hx hb d_Mo_end0_16 rfl (lv_at hl 1 rfl) ?_
  refine nw_isub (v := nI (aN A - kk)) hx hb d_Mo_end0_17 (pk_sub (by omega)) ?_
  refine lv_istore_n (lv' := [(2, .int (nI (aN A - kk))), (0, .ref (ad 0)), (1, .int (nI (kk)))]) hx hb d_Mo_end0_18 rfl hl (by decide) rfl (fun ls hl => ?_)
  refine lv_aload_n hx hb d_Mo_end0_19 rfl (lv_at hl 1 rfl) ?_
  refine lv_iload_n hx hb d_Mo_end0_20 rfl (lv_at hl 2 rfl) ?_
  refine mw_pA hx hb hts hown hKW.1 hP hD hS lf_Mo_165 d_Mo_end0_21 (fun H locs hP hD hS => ?_)
  refine lv_iload_n hx hb d_Mo_end0_24 rfl (lv_at hl 0 rfl) ?_
  exact vx_ret (W.widen (k := 1) (n := 6) (Nat.le_of_ble_eq_true rfl) (Nat.le_of_ble_eq_true rfl) (W.iret (v := nI (aN A - kk)) hx hb hr (fun t ht hW => ⟨⟨_, qA w kk, rfl, ⟨pN A kk, ⟨hMI.1, hMI.2.1, ⟨rfl, Nat.le_trans hkkh hn9, fun j hj => hTT j (Nat.lt_of_lt_of_le hj hkkh)⟩, hMI.2.2.2⟩, rfl, by unfold sp_end; rw [wnkk, if_pos hrg]⟩, BM_of ht hP⟩, hS.F ht⟩) hS.2.2 d_Mo_end0_25))
set_option maxHeartbeats 4000000 in
set_option maxRecDepth 100000 in
/-- digit(c, radix) -/
theorem c_Mo_digit (l : Launch) {D : va_G} {cI cB cR : ClassId} {ad : Nat → Nat} (w : Mt) (sz : Nat) (x : Int32) {b : Nat} (hb2 : 2 ≤ b) (hb36 : b ≤ 36) : Met l y_Mo_digit (q_Mo_digit :: wA) { frames := 0, cells := 0, slots := 0, locals := 0 } (va_Pc [.int (x), .int (nI (b))] (PM D cI cB cR ad w sz)) (va_Qi (fun (r : Int32) (w1 : Mt) => r = (if dgN x < b then nI (dgN x) else -1) ∧ w1 = w) (BM D cI cB cR ad) (AM ad sz)) 0 0 (AM ad sz) := by
  refine Met.ofW (cc := b_Mo_digit) (maxL := 3) (ret := (some (.int))) (by decide) rfl ?_
  intro p e s m args below meth c s₁ B hml hv
  obtain ⟨rfl, hsz, hP, hD0, hKW⟩ := hv
  have hx := B.exec
  have hb := B.bytes
  have hr := B.returns
  have hts := atoms_spec (ws := q_Mo_digit :: wA) B.pre
  have hown : s.vm.findClass R_Mo = some m.cls := findClass_of_methodNamed B.named
  have hlocks := B.notSynchronized
  subst hsz
  have hD := NM_AM (sz := s.heap.size) hD0
  have hS : va_S (AM ad s.heap.size) s.heap s.heap [] := va_S.rf
  have hl := lv_entry ([.int (x), .int (nI (b))]) (n := 3) (Nat.le_of_ble_eq_true rfl)
  rw [lg_entry_eq]
  generalize (lg_sl ([.int (x), .int (nI (b))]) ++ List.replicate (3 - (lg_sl ([.int (x), .int (nI (b))])).length) Slot.unset).toArray = ls at hl ⊢
  have hl : lv_has ls 3 [(0, .int (x)), (1, .int (nI (b)))] := hl
  have at65 : ∀ (d : Nat) (ls : Array Slot), d < 100 → ((d < b ∧ d = dgN x) ∨ (b ≤ d ∧ b ≤ dgN x)) → lv_has ls 3 [(0, .int (x)), (1, .int (nI (b)))] → W p l e (headSpec (q_Mo_digit :: wA) { frames := 0, cells := 0, slots := 0, locals := 0 }).room s m ([.int (x), .int (nI (b))] : List Value).toArray below meth c s.heap [] 0 0 (MQ below (va_Qi (fun (r : Int32) (w1 : Mt) => r = (if dgN x < b then nI (dgN x) else -1) ∧ w1 = w) (BM D cI cB cR ad) (AM ad s.heap.size)) ([.int (x), .int (nI (b))] : List Value).toArray s 0 0 (AM ad s.heap.size)) (F0 m 65 ls [.int (nI d)]) := by
    intro d ls hd hor hl
    refine lv_istore_n (lv' := [(2, .int (nI (d))), (0, .int (x)), (1, .int (nI (b)))]) hx hb d_Mo_digit_65 rfl hl (by decide) rfl (fun ls hl => ?_)
    refine lv_iload_n hx hb d_Mo_digit_66 rfl (lv_at hl 0 rfl) ?_
    refine lv_iload_n hx hb d_Mo_digit_67 rfl (lv_at hl 2 rfl) ?_
    refine lv_icmp_ge (tgt := 75) hx hb d_Mo_digit_68 (by decide) (fun c68 => ?_) (fun c68 => ?_)
    · skip
      have c68 : b ≤ d := (nI_leI (by omega) (by omega)).mp c68
      refine lv_iconst (v := -1) hx hb d_Mo_digit_75 (by decide) ?_
      exact W.iret (v := -1) hx hb hr (fun t ht hW => ⟨⟨_, w, rfl, ⟨by rw [if_neg (by omega)], rfl⟩, BM_of ht hP⟩, hS.F ht⟩) hS.2.2 d_Mo_digit_76
    · skip
      have c68 : ¬ (b ≤ d) := fun h => c68 ((nI_leI (by omega) (by omega)).mpr h)
      refine lv_iload_n hx hb d_Mo_digit_71 rfl (lv_at hl 0 rfl) ?_
      refine lv_goto (tgt := 76) hx hb d_Mo_digit_72 (by decide) ?_
      exact W.iret (v := nI (d)) hx hb hr (fun t ht hW => ⟨⟨_, w, rfl, ⟨by rw [if_pos (by omega)]; congr 1; omega, rfl⟩, BM_of ht hP⟩, hS.F ht⟩) hS.2.2 d_Mo_digit_76
  have at63 : ∀ (ls : Array Slot), (¬ (48 ≤ wN x ∧ wN x ≤ 57)) → (¬ (97 ≤ wN x ∧ wN x ≤ 122)) → (¬ (65 ≤ wN x ∧ wN x ≤ 90)) → lv_has ls 3 [(0, .int (x)), (1, .int (nI (b)))] → W p l e (headSpec (q_Mo_digit :: wA) { frames := 0, cells := 0, slots := 0, locals := 0 }).room s m ([.int (x), .int (nI (b))] : List Value).toArray below meth c s.heap [] 0 0 (MQ below (va_Qi (fun (r : Int32) (w1 : Mt) => r = (if dgN x < b then nI (dgN x) else -1) ∧ w1 = w) (BM D cI cB cR ad) (AM ad s.heap.size)) ([.int (x), .int (nI (b))] : List Value).toArray s 0 0 (AM ad s.heap.size)) (F0 m 63 ls []) := by
    intro ls h1 h2 h3 hl
    refine lv_bipush (v := nI (99)) hx hb d_Mo_digit_63 (by decide) ?_
    exact at65 99 ls (by decide) (Or.inr ⟨by omega, by unfold dgN; rw [if_neg h1, if_neg h2, if_neg h3]; exact hb36⟩) hl
  have at41 : ∀ (ls : Array Slot), (¬ (48 ≤ wN x ∧ wN x ≤ 57)) → (¬ (97 ≤ wN x ∧ wN x ≤ 122)) → lv_has ls 3 [(0, .int (x)), (1, .int (nI (b)))] → W p l e (headSpec (q_Mo_digit :: wA) { frames := 0, cells := 0, slots := 0, locals := 0 }).room s m ([.int (x), .int (nI (b))] : List Value).toArray below meth c s.heap [] 0 0 (MQ below (va_Qi (fun (r : Int32) (w1 : Mt) => r = (if dgN x < b then nI (dgN x) else -1) ∧ w1 = w) (BM D cI cB cR ad) (AM ad s.heap.size)) ([.int (x), .int (nI (b))] : List Value).toArray s 0 0 (AM ad s.heap.size)) (F0 m 41 ls []) := by
    intro ls h1 h2 hl
    refine lv_iload_n hx hb d_Mo_digit_41 rfl (lv_at hl 0 rfl) ?_
    refine lv_bipush (v := nI (65)) hx hb d_Mo_digit_42 (by decide) ?_
    refine lv_icmp_lt (tgt := 63) hx hb d_Mo_digit_44 (by decide) (fun c44 => ?_) (fun c44 => ?_)
    · skip
      exact at63 ls h1 h2 (rng_no1 (by omega) (by omega) c44) hl
    · skip
      refine lv_iload_n hx hb d_Mo_digit_47 rfl (lv_at hl 0 rfl) ?_
      refine lv_bipush (v := nI (90)) hx hb d_Mo_digit_48 (by decide) ?_
      refine lv_icmp_gt (tgt := 63) hx hb d_Mo_digit_50 (by decide) (fun c50 => ?_) (fun c50 => ?_)
      · skip
        exact at63 ls h1 h2 (rng_no2 (by omega) c50) hl
      · skip
        obtain ⟨q, hq1, hq2, rfl⟩ := rng_ix (by omega) (Int32.not_lt.mp c44) (Int32.not_lt.mp c50) (by omega)
        refine lv_iload_n hx hb d_Mo_digit_53 rfl (lv_at hl 0 rfl) ?_
        refine lv_bipush (v := nI (65)) hx hb d_Mo_digit_54 (by decide) ?_
        refine nw_isub (v := nI (q - 65)) hx hb d_Mo_digit_56 (pk_sub (by omega)) ?_
        refine lv_bipush (v := nI (10)) hx hb d_Mo_digit_57 (by decide) ?_
        refine nw_iadd (v := nI (q - 65 + 10)) hx hb d_Mo_digit_59 (nI_add _ _) ?_
        refine lv_goto (tgt := 65) hx hb d_Mo_digit_60 (by decide) ?_
        have hd : dgN (nI q) = q - 65 + 10 := by
          unfold dgN
          rw [wN_small (by omega)] at h1 h2
          rw [wN_small (by omega), if_neg h1, if_neg h2, if_pos ⟨hq1, hq2⟩]
          omega
        exact at65 (q - 65 + 10) ls (by omega) (by omega) hl
  have at19 : ∀ (ls : Array Slot), (¬ (48 ≤ wN x ∧ wN x ≤ 57)) → lv_has ls 3 [(0, .int (x)), (1, .int (nI (b)))] → W p l e (headSpec (q_Mo_digit :: wA) { frames := 0, cells := 0, slots := 0, locals := 0 }).room s m ([.int (x), .int (nI (b))] : List Value).toArray below meth c s.heap [] 0 0 (MQ below (va_Qi (fun (r : Int32) (w1 : Mt) => r = (if dgN x < b then nI (dgN x) else -1) ∧ w1 = w) (BM D cI cB cR ad) (AM ad s.heap.size)) ([.int (x), .int (nI (b))] : List Value).toArray s 0 0 (AM ad s.heap.size)) (F0 m 19 ls []) := by
    intro ls h1 hl
    refine lv_iload_n hx hb d_Mo_digit_19 rfl (lv_at hl 0 rfl) ?_
    refine lv_bipush (v := nI (97)) hx hb d_Mo_digit_20 (by decide) ?_
    refine lv_icmp_lt (tgt := 41) hx hb d_Mo_digit_22 (by decide) (fun c22 => ?_) (fun c22 => ?_)
    · skip
      exact at41 ls h1 (rng_no1 (by omega) (by omega) c22) hl
    · skip
      refine lv_iload_n hx hb d_Mo_digit_25 rfl (lv_at hl 0 rfl) ?_
      refine lv_bipush (v := nI (122)) hx hb d_Mo_digit_26 (by decide) ?_
      refine lv_icmp_gt (tgt := 41) hx hb d_Mo_digit_28 (by decide) (fun c28 => ?_) (fun c28 => ?_)
      · skip
        exact at41 ls h1 (rng_no2 (by omega) c28) hl
      · skip
        obtain ⟨q, hq1, hq2, rfl⟩ := rng_ix (by omega) (Int32.not_lt.mp c22) (Int32.not_lt.mp c28) (by omega)
        refine lv_iload_n hx hb d_Mo_digit_31 rfl (lv_at hl 0 rfl) ?_
        refine lv_bipush (v := nI (97)) hx hb d_Mo_digit_32 (by decide) ?_
        refine nw_isub (v := nI (q - 97)) hx hb d_Mo_digit_34 (pk_sub (by omega)) ?_
        refine lv_bipush (v := nI (10)) hx hb d_Mo_digit_35 (by decide) ?_
        refine nw_iadd (v := nI (q - 97 + 10)) hx hb d_Mo_digit_37 (nI_add _ _) ?_
        refine lv_goto (tgt := 65) hx hb d_Mo_digit_38 (by decide) ?_
        have hd : dgN (nI q) = q - 97 + 10 := by
          unfold dgN
          rw [wN_small (by omega)] at h1
          rw [wN_small (by omega), if_neg h1, if_pos ⟨hq1, hq2⟩]
          omega
        exact at65 (q - 97 + 10) ls (by omega) (by omega) hl
  refine lv_iload_n hx hb d_Mo_digit_0 rfl (lv_at hl 0 rfl) ?_
  refine lv_bipush (v := nI (48)) hx hb d_Mo_digit_1 (by decide) ?_
  refine lv_icmp_lt (tgt := 19) hx hb d_Mo_digit_3 (by decide) (fun c3 => ?_) (fun c3 => ?_)
  · skip
    exact at19 ls  (rng_no1 (by omega) (by omega) c3) hl
  · skip
    refine lv_iload_n hx hb d_Mo_digit_6 rfl (lv_at hl 0 rfl) ?_
    refine lv_bipush (v := nI (57)) hx hb d_Mo_digit_7 (by decide) ?_
    refine lv_icmp_gt (tgt := 19) hx hb d_Mo_digit_9 (by decide) (fun c9 => ?_) (fun c9 => ?_)
    · skip
      exact at19 ls  (rng_no2 (by omega) c9) hl
    · skip
      obtain ⟨q, hq1, hq2, rfl⟩ := rng_ix (by omega) (Int32.not_lt.mp c3) (Int32.not_lt.mp c9) (by omega)
      refine lv_iload_n hx hb d_Mo_digit_12 rfl (lv_at hl 0 rfl) ?_
      refine lv_bipush (v := nI (48)) hx hb d_Mo_digit_13 (by decide) ?_
      refine nw_isub (v := nI (q - 48)) hx hb d_Mo_digit_15 (pk_sub (by omega)) ?_
      refine lv_goto (tgt := 65) hx hb d_Mo_digit_16 (by decide) ?_
      have hd : dgN (nI q) = q - 48 := by
        unfold dgN
        rw [wN_small (by omega), if_pos ⟨hq1, hq2⟩]
      exact at65 (q - 48) ls (by omega) (by omega) hl
set_option maxHeartbeats 4000000 in
set_option maxRecDepth 100000 in
/-- read0 -/
theorem c_Mo_read0 (l : Launch) {D : va_G} {cI cB cR : ClassId} {ad : Nat → Nat} (w : Mt) (sz : Nat) (hl9 : l.stackTraces = false) (x1 b : Int32) (A : Ab) (hMI : MI w A) : vx_Met l y_Mo_read0 (q_Mo_read0 :: wA) { frames := 14, cells := 3, slots := 18, locals := 300 } (va_Pc [.ref (ad 0), .int (x1), .int (b)] (PM D cI cB cR ad w sz)) (va_Qi (fun (r : Int32) (w1 : Mt) => okm (mX w) (sp_read x1 b A) r w1) (BM D cI cB cR ad) (AM ad sz)) (XM D cI cB cR ad (fun E u => thm9 (sp_read x1 b A) E_IA E_UO E u) sz) 3 18 (AM ad sz) := by
  refine vx_ofW (cc := b_Mo_read0) (maxL := 6) (ret := (some (.int))) (by decide) rfl ?_
  intro p e s m args below meth c s₁ B hml htab hv
  obtain ⟨rfl, hsz, hP, hD0, hKW⟩ := hv
  have hx := B.exec
  have hb := B.bytes
  have hr := B.returns
  have hts := atoms_spec (ws := q_Mo_read0 :: wA) B.pre
  have hown : s.vm.findClass R_Mo = some m.cls := findClass_of_methodNamed B.named
  have hlocks := B.notSynchronized
  subst hsz
  have hD := NM_AM (sz := s.heap.size) hD0
  have hS : va_S (AM ad s.heap.size) s.heap s.heap [] := va_S.rf
  have hl := lv_entry ([.ref (ad 0), .int (x1), .int (b)]) (n := 6) (Nat.le_of_ble_eq_true rfl)
  rw [lg_entry_eq]
  generalize (lg_sl ([.ref (ad 0), .int (x1), .int (b)]) ++ List.replicate (6 - (lg_sl ([.ref (ad 0), .int (x1), .int (b)])).length) Slot.unset).toArray = ls at hl ⊢
  have hl : lv_has ls 6 [(0, .ref (ad 0)), (1, .int (x1)), (2, .int (b))] := hl
  have h3 := hMI.w3
  refine lv_iload_n hx hb d_Mo_read0_0 rfl (lv_at hl 1 rfl) ?_
  refine yS_v (As := [.int (x1)]) (rest := []) (n := 1) ⟨hx, hb, hml, hown, hts⟩ (c_Mo_named l w _ hl9 x1) (cwS0 1 hts lm_Mo_77 st_Mo_named in_Mo kq_Mo_named rfl rfl rfl (by decide +kernel) ⟨Nat.le_of_ble_eq_true rfl, Nat.le_of_ble_eq_true rfl⟩) hKW hP hD hS rfl hl.1 rfl (Nat.le_of_ble_eq_true rfl) d_Mo_read0_1 ⟨Nat.le_of_ble_eq_true rfl, Nat.le_of_ble_eq_true rfl⟩ htab hlocks ⟨Nat.le_of_ble_eq_true rfl, Nat.le_of_ble_eq_true rfl⟩ (fun E u h => by obtain ⟨hEx, hu, hn⟩ := h; subst hu; exact ⟨A, hMI, Or.inl ⟨hEx, if_neg (fun q => hn q.1)⟩⟩) (fun w1 H locs hp hP hD hS => ?_)
  obtain ⟨ew, hr1, hr2⟩ := hp
  rw [ew] at hP hD
  obtain ⟨i1, hi1, hvi1⟩ := reg_ix hr1 hr2
  subst hvi1
  have wni1 : wN (nI i1) = i1 := wN_small (by omega)
  refine lv_iload_n hx hb d_Mo_read0_4 rfl (lv_at hl 2 rfl) ?_
  refine lv_iconst (v := nI (2)) hx hb d_Mo_read0_5 (by decide) ?_
  refine lv_bipush (v := nI (36)) hx hb d_Mo_read0_6 (by decide) ?_
  refine zS_i (As := [.int (b), .int (nI (2)), .int (nI (36))]) (rest := []) (n := 3) ⟨hx, hb, hml, hown, hts⟩ (c_Mo_in l w _ b (nI 2) (nI 36)) (cwS0 3 hts lm_Mo_56 st_Mo_in in_Mo kq_Mo_in rfl rfl rfl (by decide +kernel) ⟨Nat.le_of_ble_eq_true rfl, Nat.le_of_ble_eq_true rfl⟩) hKW hP hD hS rfl hl.1 rfl (Nat.le_of_ble_eq_true rfl) d_Mo_read0_8 ⟨Nat.le_of_ble_eq_true rfl, Nat.le_of_ble_eq_true rfl⟩ (fun r w1 H locs hp hP hD hS => ?_)
  obtain ⟨ew, hor⟩ := hp
  rw [ew] at hP hD
  refine yS_v (As := [.int (r)]) (rest := []) (n := 1) ⟨hx, hb, hml, hown, hts⟩ (c_Mo_check l w _ hl9 r) (cwS0 1 hts lm_Mo_60 st_Mo_check in_Mo kq_Mo_check rfl rfl rfl (by decide +kernel) ⟨Nat.le_of_ble_eq_true rfl, Nat.le_of_ble_eq_true rfl⟩) hKW hP hD hS rfl hl.1 rfl (Nat.le_of_ble_eq_true rfl) d_Mo_read0_11 ⟨Nat.le_of_ble_eq_true rfl, Nat.le_of_ble_eq_true rfl⟩ htab hlocks ⟨Nat.le_of_ble_eq_true rfl, Nat.le_of_ble_eq_true rfl⟩ (fun E u h => by obtain ⟨hEx, hu, hz⟩ := h; subst hu; exact ⟨A, hMI, Or.inl ⟨hEx, if_neg (fun q => by rcases hor with z | z; exact absurd (z.1.symm.trans hz) (by decide); exact z.2 q.2)⟩⟩) (fun w2 H locs hp hP hD hS => ?_)
  obtain ⟨ew, hne⟩ := hp
  rw [ew] at hP hD
  obtain ⟨hr1, hr2⟩ : (nI 2) ≤ b ∧ b ≤ (nI 36) := by rcases hor with z | z; exact z.2; exact absurd z.1 hne
  obtain ⟨kk, hkkl, hkkh, hvkk⟩ := rng_ix (a := 2) (b := 36) (by omega) hr1 hr2 (by omega)
  subst hvkk
  have wnkk : wN (nI kk) = kk := wN_small (by omega)
  obtain ⟨hsA, hn9, hTT⟩ := hMI.2.2.1
  have hrg : rg (nI i1) ∧ nI 2 ≤ nI kk ∧ nI kk ≤ nI 36 := ⟨rg_nI hi1, hr1, hr2⟩
  have hM0 : MI (qA w 0) (pN A 0) := ⟨hMI.1, hMI.2.1, ⟨rfl, Nat.zero_le _, fun j hj => absurd hj (Nat.not_lt_zero _)⟩, hMI.2.2.2⟩
  refine lv_aload_n hx hb d_Mo_read0_14 rfl (lv_at hl 0 rfl) ?_
  refine mw_gF12 hx hb hts hown hKW.1 hP (n := aN A) hsA lf_Mo_165 d_Mo_read0_15 ?_
  refine lv_istore_n (lv' := [(3, .int (nI (aN A))), (0, .ref (ad 0)), (1, .int (nI (i1))), (2, .int (nI (kk)))]) hx hb d_Mo_read0_18 rfl hl (by decide) rfl (fun ls hl => ?_)
  refine lv_aload_n hx hb d_Mo_read0_19 rfl (lv_at hl 1 rfl) ?_
  refine lv_iconst (v := nI (0)) hx hb d_Mo_read0_20 (by decide) ?_
  refine mw_pA hx hb hts hown hKW.1 hP hD hS lf_Mo_165 d_Mo_read0_21 (fun H locs hP hD hS => ?_)
  refine lv_aload_n hx hb d_Mo_read0_24 rfl (lv_at hl 1 rfl) ?_
  refine mw_gF1 hx hb hts hown hKW.1 hP lf_Mo_18 d_Mo_read0_25 ?_
  refine lv_lconst (v := lN (0)) hx hb d_Mo_read0_28 (by decide) ?_
  refine zV_v (As := [.long (lN (0))]) (rest := []) (n := 1) ⟨hx, hb, hml, hown, hts⟩ (c_Mn_set_J l (qA w 0) _ (i := 10) (V := 0) (by omega) (by decide) hM0.w3) (cwV0 1 hts lm_Mo_80 im_Mn_set_J se_Mn_set_J in_Mn kq_Mn_set_J rfl rfl rfl (by decide +kernel) ⟨Nat.le_of_ble_eq_true rfl, Nat.le_of_ble_eq_true rfl⟩) (recMn hKW.1 hP (i := 10) (by omega)) hKW hP hD hS rfl hl.1 rfl (Nat.le_of_ble_eq_true rfl) d_Mo_read0_29 ⟨Nat.le_of_ble_eq_true rfl, Nat.le_of_ble_eq_true rfl⟩ (fun w2 H locs hp hP hD hS => ?_)
  obtain ⟨hE2, hV2, h32⟩ := hp
  refine lv_iconst (v := nI (0)) hx hb d_Mo_read0_32 (by decide) ?_
  refine lv_istore (lv' := [(4, .int (nI (0))), (3, .int (nI (aN A))), (0, .ref (ad 0)), (1, .int (nI (i1))), (2, .int (nI (kk)))]) hx hb d_Mo_read0_33 hl (by decide) rfl (fun ls hl => ?_)
  have loop : ∀ (q j : Nat) (u : Mt) (H : Heap) (locs : List Loc) (ls : Array Slot), j + q = aN A → eqM (qA w 0) u [10] → NU u 10 (rdv kk (aT A) j) → W3 u → (∀ z, z < j → dgN (aT A z) < kk) → va_P D clA (NM cI cB cR ad (u)) H → va_D (AM ad s.heap.size) (NM cI cB cR ad (u)) → va_S (AM ad s.heap.size) s.heap H locs → lv_has ls 6 [(4, .int (nI (j))), (3, .int (nI (aN A))), (0, .ref (ad 0)), (1, .int (nI (i1))), (2, .int (nI (kk)))] → W p l e (headSpec (q_Mo_read0 :: wA) { frames := 14, cells := 3, slots := 18, locals := 300 }).room s m ([.ref (ad 0), .int (nI (i1)), .int (nI (kk))] : List Value).toArray below meth c H locs (0 + 1 + 1) (0 + 6 + 6) (vx_MQ below (va_Qi (fun (r : Int32) (w1 : Mt) => okm (mX w) (sp_read (nI i1) (nI kk) A) r w1) (BM D cI cB cR ad) (AM ad s.heap.size)) (XM D cI cB cR ad (fun E u => thm9 (sp_read (nI i1) (nI kk) A) E_IA E_UO E u) s.heap.size) ([.ref (ad 0), .int (nI (i1)), .int (nI (kk))] : List Value).toArray s 3 18 (AM ad s.heap.size)) (F0 m 35 ls []) := by
    intro q
    induction q with
    | zero =>
      intro j u H locs ls hj hE hV h3u hdg hP hD hS hl
      refine lv_iload hx hb d_Mo_read0_35 (lv_at hl 0 rfl) ?_
      refine lv_iload_n hx hb d_Mo_read0_37 rfl (lv_at hl 1 rfl) ?_
      refine lv_icmp_ge (tgt := 90) hx hb d_Mo_read0_38 (by decide) (fun c38 => ?_) (fun c38 => ?_)
      · skip
        have c38 : aN A ≤ j := (nI_leI (by omega) (by omega)).mp c38
        have ej : j = aN A := by omega
        subst ej
        have hrs := rdv_small hkkh hn9 hdg
        have hok : okd kk (aT A) (aN A) = true := okd_t hdg
        have hMu := hM0.same hE h3u (fun j => one10 (by omega))
        refine lv_aload_n hx hb d_Mo_read0_90 rfl (lv_at hl 2 rfl) ?_
        refine lv_iload_n hx hb d_Mo_read0_91 rfl (lv_at hl 3 rfl) ?_
        refine lv_aload_n hx hb d_Mo_read0_92 rfl (lv_at hl 2 rfl) ?_
        refine mw_gF1 hx hb hts hown hKW.1 hP lf_Mo_18 d_Mo_read0_93 ?_
        refine zV_i (As := [.int (nI (i1)), .ref (ad 24)]) (rest := []) (n := 2) ⟨hx, hb, hml, hown, hts⟩ (c_Mo_keep l u _ (x := i1) (a := 10) (by omega) (by omega) (by omega) h3u hV) (cwV0 2 hts lm_Mo_83 im_Mo_keep se_Mo_keep in_Mo kq_Mo_keep rfl rfl rfl (by decide +kernel) ⟨Nat.le_of_ble_eq_true rfl, Nat.le_of_ble_eq_true rfl⟩) (recMo hKW.1 hP) hKW hP hD hS rfl hl.1 rfl (Nat.le_of_ble_eq_true rfl) d_Mo_read0_96 ⟨Nat.le_of_ble_eq_true rfl, Nat.le_of_ble_eq_true rfl⟩ (fun r w4 H locs hp hP hD hS => ?_)
        obtain ⟨er, hEk, hVk, h3k⟩ := hp
        subst er
        exact vx_ret (W.widen (k := 3) (n := 18) (Nat.le_of_ble_eq_true rfl) (Nat.le_of_ble_eq_true rfl) (W.iret (v := nI (nb (rdv kk (aT A) (aN A)))) hx hb hr (fun t ht hW => ⟨⟨_, w4, rfl, ⟨pG (pN A 0) i1 (rdv kk (aT A) (aN A)), hMu.put hEk h3k (fun j => one_i) hVk (nb_le_iff.mpr (p2_fit hrs (by omega))), hEk.X.trans hE.X, by unfold sp_read; rw [wni1, wnkk, if_pos hrg, if_pos hok]⟩, BM_of ht hP⟩, hS.F ht⟩) hS.2.2 d_Mo_read0_99))
      · skip
        have c38 : ¬ (aN A ≤ j) := fun h => c38 ((nI_leI (by omega) (by omega)).mpr h)
        omega
    | succ q ih =>
      intro j u H locs ls hj hE hV h3u hdg hP hD hS hl
      refine lv_iload hx hb d_Mo_read0_35 (lv_at hl 0 rfl) ?_
      refine lv_iload_n hx hb d_Mo_read0_37 rfl (lv_at hl 1 rfl) ?_
      refine lv_icmp_ge (tgt := 90) hx hb d_Mo_read0_38 (by decide) (fun c38 => ?_) (fun c38 => ?_)
      · skip
        have c38 : aN A ≤ j := (nI_leI (by omega) (by omega)).mp c38
        omega
      · skip
        have c38 : ¬ (aN A ≤ j) := fun h => c38 ((nI_leI (by omega) (by omega)).mpr h)
        have hTj : mT u j = aT A j := by rw [hE.T]; exact hTT j (by omega)
        refine lv_aload_n hx hb d_Mo_read0_41 rfl (lv_at hl 2 rfl) ?_
        refine mw_gF10 hx hb hts hown hKW.1 hP lf_Mo_46 d_Mo_read0_42 ?_
        refine lv_iload hx hb d_Mo_read0_45 (lv_at hl 0 rfl) ?_
        refine mw_lT hx hb hKW.1 hP (j := j) (by omega) (x := aT A j) hTj d_Mo_read0_47 ?_
        refine lv_iload_n hx hb d_Mo_read0_48 rfl (lv_at hl 4 rfl) ?_
        refine zS_i (As := [.int (aT A j), .int (nI (kk))]) (rest := []) (n := 2) ⟨hx, hb, hml, hown, hts⟩ (c_Mo_digit l u _ (aT A j) (b := kk) hkkl hkkh) (cwS0 2 hts lm_Mo_168 st_Mo_digit in_Mo kq_Mo_digit rfl rfl rfl (by decide +kernel) ⟨Nat.le_of_ble_eq_true rfl, Nat.le_of_ble_eq_true rfl⟩) hKW hP hD hS rfl hl.1 rfl (Nat.le_of_ble_eq_true rfl) d_Mo_read0_49 ⟨Nat.le_of_ble_eq_true rfl, Nat.le_of_ble_eq_true rfl⟩ (fun r w3 H locs hp hP hD hS => ?_)
        obtain ⟨er, ew⟩ := hp
        rw [ew] at hP hD
        by_cases hc : dgN (aT A j) < kk
        · rw [if_pos hc] at er
          subst er
          refine lv_istore (lv' := [(5, .int (nI (dgN (aT A j)))), (4, .int (nI (j))), (3, .int (nI (aN A))), (0, .ref (ad 0)), (1, .int (nI (i1))), (2, .int (nI (kk)))]) hx hb d_Mo_read0_52 hl (by decide) rfl (fun ls hl => ?_)
          refine lv_iload hx hb d_Mo_read0_54 (lv_at hl 0 rfl) ?_
          refine lv_if_ge (tgt := 67) hx hb d_Mo_read0_56 (by decide) (fun c56 => ?_) (fun c56 => ?_)
          · skip
            have c56 : 0 ≤ dgN (aT A j) := (nI_leI (by omega) (by omega)).mp (by first | (rw [nI_0]; exact c56) | rw [nI_0])
            have hrs := rdv_small hkkh (Nat.le_of_lt (show j < 4096 by omega)) hdg
            have hl1 := hV.fit hrs
            refine lv_aload_n hx hb d_Mo_read0_67 rfl (lv_at hl 3 rfl) ?_
            refine mw_gF1 hx hb hts hown hKW.1 hP lf_Mo_18 d_Mo_read0_68 ?_
            refine lv_iload_n hx hb d_Mo_read0_71 rfl (lv_at hl 5 rfl) ?_
            refine zV_v (As := [.int (nI (kk))]) (rest := []) (n := 1) ⟨hx, hb, hml, hown, hts⟩ (c_Mn_times l u _ (i := 10) (d := kk) (by omega) h3u hV (by omega) (by omega) (by omega)) (cwV0 1 hts lm_Mo_144 im_Mn_times se_Mn_times in_Mn kq_Mn_times rfl rfl rfl (by decide +kernel) ⟨Nat.le_of_ble_eq_true rfl, Nat.le_of_ble_eq_true rfl⟩) (recMn hKW.1 hP (i := 10) (by omega)) hKW hP hD hS rfl hl.1 rfl (Nat.le_of_ble_eq_true rfl) d_Mo_read0_72 ⟨Nat.le_of_ble_eq_true rfl, Nat.le_of_ble_eq_true rfl⟩ (fun w4 H locs hp hP hD hS => ?_)
            obtain ⟨hE4, hV4, h34⟩ := hp
            have hl4 := hV4.fit (k := 24582) (by
              have a1 : rdv kk (aT A) j * kk < 2 ^ 24576 * 2 ^ 6 := Nat.mul_lt_mul_of_lt_of_le hrs (by omega) (by omega)
              rw [← Nat.pow_add] at a1
              exact a1)
            refine lv_aload_n hx hb d_Mo_read0_75 rfl (lv_at hl 3 rfl) ?_
            refine mw_gF1 hx hb hts hown hKW.1 hP lf_Mo_18 d_Mo_read0_76 ?_
            refine lv_iload hx hb d_Mo_read0_79 (lv_at hl 0 rfl) ?_
            refine zV_v (As := [.int (nI (dgN (aT A j)))]) (rest := []) (n := 1) ⟨hx, hb, hml, hown, hts⟩ (c_Mn_add_I l w4 _ (i := 10) (x := dgN (aT A j)) (by omega) h34 hV4 (by omega) (by omega)) (cwV0 1 hts lm_Mo_175 im_Mn_add_I se_Mn_add_I in_Mn kq_Mn_add_I rfl rfl rfl (by decide +kernel) ⟨Nat.le_of_ble_eq_true rfl, Nat.le_of_ble_eq_true rfl⟩) (recMn hKW.1 hP (i := 10) (by omega)) hKW hP hD hS rfl hl.1 rfl (Nat.le_of_ble_eq_true rfl) d_Mo_read0_81 ⟨Nat.le_of_ble_eq_true rfl, Nat.le_of_ble_eq_true rfl⟩ (fun w5 H locs hp hP hD hS => ?_)
            obtain ⟨hE5, hV5, h35⟩ := hp
            refine lv_iinc (v := nI (j + 1)) (lv' := [(4, .int (nI (j + 1))), (5, .int (nI (dgN (aT A j)))), (3, .int (nI (aN A))), (0, .ref (ad 0)), (1, .int (nI (i1))), (2, .int (nI (kk)))]) hx hb d_Mo_read0_84 hl (k := 1) rfl (nI_add _ 1) (by decide) rfl (fun ls hl => ?_)
            refine lv_goto (tgt := 35) hx hb d_Mo_read0_87 (by decide) ?_
            exact ih (j + 1) w5 H locs ls (by omega) (hE.trans (hE4.trans hE5)) hV5 h35 (fun z hz => by rcases Nat.lt_or_ge z j with q9 | q9; exact hdg z q9; rw [show z = j by omega]; exact hc) hP hD hS (lv_sub hl [0, 2, 3, 4, 5] rfl)
          · skip
            have c56 : ¬ (0 ≤ dgN (aT A j)) := fun h => c56 (by have := (nI_leI (by omega) (by omega)).mpr h; rwa [nI_0] at this)
            omega
        · rw [if_neg hc] at er
          subst er
          refine lv_istore (lv' := [(5, .int (-1)), (4, .int (nI (j))), (3, .int (nI (aN A))), (0, .ref (ad 0)), (1, .int (nI (i1))), (2, .int (nI (kk)))]) hx hb d_Mo_read0_52 hl (by decide) rfl (fun ls hl => ?_)
          refine lv_iload hx hb d_Mo_read0_54 (lv_at hl 0 rfl) ?_
          refine lv_if_ge (tgt := 67) hx hb d_Mo_read0_56 (by decide) (fun c56 => ?_) (fun c56 => ?_)
          · exact absurd c56 (by decide)
          · skip
            have hno : ¬ okd kk (aT A) (aN A) = true := by rw [okd_f (j := j) (by omega) hc]; exact Bool.false_ne_true
            exact ythrow hx hb hl9 hown (by decide) hts ta_Mo_UO tb_Mo_UO tg_Mo_UO tk_Mo_UO ti_UO hKW hP hS (hl.1.trans hml.symm) d_Mo_read0_59 d_Mo_read0_62 d_Mo_read0_63 d_Mo_read0_66 htab hlocks (Nat.le_of_ble_eq_true rfl) (Nat.le_of_ble_eq_true rfl) (Nat.le_of_ble_eq_true rfl) (Nat.le_of_ble_eq_true rfl) (Nat.le_of_ble_eq_true rfl) (Nat.le_of_ble_eq_true rfl) (⟨pN A 0, hM0.same hE h3u (fun j => one10 (by omega)), Or.inr ⟨rfl, by unfold sp_read; rw [wnkk, if_pos hrg, if_neg hno]⟩⟩)
  exact loop (aN A) 0 w2 _ _ ls (by omega) hE2 hV2 h32 (fun z hz => absurd hz (by omega)) hP hD hS (lv_sub hl [0, 1, 2, 3, 4] rfl)
set_option maxHeartbeats 4000000 in
set_option maxRecDepth 100000 in
/-- write0 -/
theorem c_Mo_write0 (l : Launch) {D : va_G} {cI cB cR : ClassId} {ad : Nat → Nat} (w : Mt) (sz : Nat) (hl9 : l.stackTraces = false) (x1 b : Int32) (A : Ab) (hMI : MI w A) : vx_Met l y_Mo_write0 (q_Mo_write0 :: wA) { frames := 14, cells := 3, slots := 18, locals := 300 } (va_Pc [.ref (ad 0), .int (x1), .int (b)] (PM D cI cB cR ad w sz)) (va_Qi (fun (r : Int32) (w1 : Mt) => okm (mX w) (sp_write x1 b A) r w1) (BM D cI cB cR ad) (AM ad sz)) (XM D cI cB cR ad (fun E u => thm9 (sp_write x1 b A) E_IA E_IS E u) sz) 3 18 (AM ad sz) := by
  refine vx_ofW (cc := b_Mo_write0) (maxL := 6) (ret := (some (.int))) (by decide) rfl ?_
  intro p e s m args below meth c s₁ B hml htab hv
  obtain ⟨rfl, hsz, hP, hD0, hKW⟩ := hv
  have hx := B.exec
  have hb := B.bytes
  have hr := B.returns
  have hts := atoms_spec (ws := q_Mo_write0 :: wA) B.pre
  have hown : s.vm.findClass R_Mo = some m.cls := findClass_of_methodNamed B.named
  have hlocks := B.notSynchronized
  subst hsz
  have hD := NM_AM (sz := s.heap.size) hD0
  have hS : va_S (AM ad s.heap.size) s.heap s.heap [] := va_S.rf
  have hl := lv_entry ([.ref (ad 0), .int (x1), .int (b)]) (n := 6) (Nat.le_of_ble_eq_true rfl)
  rw [lg_entry_eq]
  generalize (lg_sl ([.ref (ad 0), .int (x1), .int (b)]) ++ List.replicate (6 - (lg_sl ([.ref (ad 0), .int (x1), .int (b)])).length) Slot.unset).toArray = ls at hl ⊢
  have hl : lv_has ls 6 [(0, .ref (ad 0)), (1, .int (x1)), (2, .int (b))] := hl
  have h3 := hMI.w3
  refine lv_iload_n hx hb d_Mo_write0_0 rfl (lv_at hl 1 rfl) ?_
  refine yS_v (As := [.int (x1)]) (rest := []) (n := 1) ⟨hx, hb, hml, hown, hts⟩ (c_Mo_named l w _ hl9 x1) (cwS0 1 hts lm_Mo_77 st_Mo_named in_Mo kq_Mo_named rfl rfl rfl (by decide +kernel) ⟨Nat.le_of_ble_eq_true rfl, Nat.le_of_ble_eq_true rfl⟩) hKW hP hD hS rfl hl.1 rfl (Nat.le_of_ble_eq_true rfl) d_Mo_write0_1 ⟨Nat.le_of_ble_eq_true rfl, Nat.le_of_ble_eq_true rfl⟩ htab hlocks ⟨Nat.le_of_ble_eq_true rfl, Nat.le_of_ble_eq_true rfl⟩ (fun E u h => by obtain ⟨hEx, hu, hn⟩ := h; subst hu; exact ⟨A, hMI, Or.inl ⟨hEx, if_neg (fun q => hn q.1)⟩⟩) (fun w1 H locs hp hP hD hS => ?_)
  obtain ⟨ew, hr1, hr2⟩ := hp
  rw [ew] at hP hD
  obtain ⟨i1, hi1, hvi1⟩ := reg_ix hr1 hr2
  subst hvi1
  have wni1 : wN (nI i1) = i1 := wN_small (by omega)
  refine lv_iload_n hx hb d_Mo_write0_4 rfl (lv_at hl 2 rfl) ?_
  refine lv_iconst (v := nI (2)) hx hb d_Mo_write0_5 (by decide) ?_
  refine lv_bipush (v := nI (36)) hx hb d_Mo_write0_6 (by decide) ?_
  refine zS_i (As := [.int (b), .int (nI (2)), .int (nI (36))]) (rest := []) (n := 3) ⟨hx, hb, hml, hown, hts⟩ (c_Mo_in l w _ b (nI 2) (nI 36)) (cwS0 3 hts lm_Mo_56 st_Mo_in in_Mo kq_Mo_in rfl rfl rfl (by decide +kernel) ⟨Nat.le_of_ble_eq_true rfl, Nat.le_of_ble_eq_true rfl⟩) hKW hP hD hS rfl hl.1 rfl (Nat.le_of_ble_eq_true rfl) d_Mo_write0_8 ⟨Nat.le_of_ble_eq_true rfl, Nat.le_of_ble_eq_true rfl⟩ (fun r w1 H locs hp hP hD hS => ?_)
  obtain ⟨ew, hor⟩ := hp
  rw [ew] at hP hD
  refine yS_v (As := [.int (r)]) (rest := []) (n := 1) ⟨hx, hb, hml, hown, hts⟩ (c_Mo_check l w _ hl9 r) (cwS0 1 hts lm_Mo_60 st_Mo_check in_Mo kq_Mo_check rfl rfl rfl (by decide +kernel) ⟨Nat.le_of_ble_eq_true rfl, Nat.le_of_ble_eq_true rfl⟩) hKW hP hD hS rfl hl.1 rfl (Nat.le_of_ble_eq_true rfl) d_Mo_write0_11 ⟨Nat.le_of_ble_eq_true rfl, Nat.le_of_ble_eq_true rfl⟩ htab hlocks ⟨Nat.le_of_ble_eq_true rfl, Nat.le_of_ble_eq_true rfl⟩ (fun E u h => by obtain ⟨hEx, hu, hz⟩ := h; subst hu; exact ⟨A, hMI, Or.inl ⟨hEx, if_neg (fun q => by rcases hor with z | z; exact absurd (z.1.symm.trans hz) (by decide); exact z.2 q.2)⟩⟩) (fun w2 H locs hp hP hD hS => ?_)
  obtain ⟨ew, hne⟩ := hp
  rw [ew] at hP hD
  obtain ⟨hr1, hr2⟩ : (nI 2) ≤ b ∧ b ≤ (nI 36) := by rcases hor with z | z; exact z.2; exact absurd z.1 hne
  obtain ⟨kk, hkkl, hkkh, hvkk⟩ := rng_ix (a := 2) (b := 36) (by omega) hr1 hr2 (by omega)
  subst hvkk
  have wnkk : wN (nI kk) = kk := wN_small (by omega)
  have hrg : rg (nI i1) ∧ nI 2 ≤ nI kk ∧ nI kk ≤ nI 36 := ⟨rg_nI hi1, hr1, hr2⟩
  obtain ⟨V, hVV⟩ : ∃ V, V = aG A i1 := ⟨_, rfl⟩
  refine lv_aload_n hx hb d_Mo_write0_14 rfl (lv_at hl 0 rfl) ?_
  refine mw_gF1 hx hb hts hown hKW.1 hP lf_Mo_18 d_Mo_write0_15 ?_
  refine lv_aload_n hx hb d_Mo_write0_18 rfl (lv_at hl 0 rfl) ?_
  refine mw_gF0 hx hb hts hown hKW.1 hP lf_Mo_11 d_Mo_write0_19 ?_
  refine lv_iload_n hx hb d_Mo_write0_22 rfl (lv_at hl 1 rfl) ?_
  refine mw_lG hx hb hKW.1 hP (j := i1) (by omega) d_Mo_write0_23 ?_
  refine zV_v (As := [.ref (ad (2 * i1 + 4))]) (rest := []) (n := 1) ⟨hx, hb, hml, hown, hts⟩ (c_Mn_set_N l w _ (i := 10) (a := i1) (by omega) (by omega) (by omega) h3 (hMI.reg hi1)) (cwV0 1 hts lm_Mo_69 im_Mn_set_N se_Mn_set_N in_Mn kq_Mn_set_N rfl rfl rfl (by decide +kernel) ⟨Nat.le_of_ble_eq_true rfl, Nat.le_of_ble_eq_true rfl⟩) (recMn hKW.1 hP (i := 10) (by omega)) hKW hP hD hS rfl hl.1 rfl (Nat.le_of_ble_eq_true rfl) d_Mo_write0_24 ⟨Nat.le_of_ble_eq_true rfl, Nat.le_of_ble_eq_true rfl⟩ (fun w2 H locs hp hP hD hS => ?_)
  obtain ⟨hE2, hV2, h32⟩ := hp
  rw [← hVV] at hV2
  refine lv_iconst (v := nI (0)) hx hb d_Mo_write0_27 (by decide) ?_
  refine lv_istore_n (lv' := [(3, .int (nI (0))), (0, .ref (ad 0)), (1, .int (nI (i1))), (2, .int (nI (kk)))]) hx hb d_Mo_write0_28 rfl hl (by decide) rfl (fun ls hl => ?_)
  have fin : ∀ (n9 : Nat) (u : Mt) (H : Heap) (locs : List Loc) (ls : Array Slot), ndg kk V = n9 → n9 ≤ 20000 → eqM w u [10] → W3 u → va_P D clA (NM cI cB cR ad (u)) H → va_D (AM ad s.heap.size) (NM cI cB cR ad (u)) → va_S (AM ad s.heap.size) s.heap H locs → lv_has ls 6 [(3, .int (nI (n9))), (0, .ref (ad 0)), (1, .int (nI (i1))), (2, .int (nI (kk)))] → W p l e (headSpec (q_Mo_write0 :: wA) { frames := 14, cells := 3, slots := 18, locals := 300 }).room s m ([.ref (ad 0), .int (nI (i1)), .int (nI (kk))] : List Value).toArray below meth c H locs (0 + 1 + 1) (0 + 6 + 6) (vx_MQ below (va_Qi (fun (r : Int32) (w1 : Mt) => okm (mX w) (sp_write (nI i1) (nI kk) A) r w1) (BM D cI cB cR ad) (AM ad s.heap.size)) (XM D cI cB cR ad (fun E u => thm9 (sp_write (nI i1) (nI kk) A) E_IA E_IS E u) s.heap.size) ([.ref (ad 0), .int (nI (i1)), .int (nI (kk))] : List Value).toArray s 3 18 (AM ad s.heap.size)) (F0 m 66 ls []) := by
    intro n9 u H locs ls hn hn2 hE h3u hP hD hS hl
    have hMu := hMI.same hE h3u (fun j => one10 (by omega))
    refine lv_aload_n hx hb d_Mo_write0_66 rfl (lv_at hl 1 rfl) ?_
    refine mw_gF1 hx hb hts hown hKW.1 hP lf_Mo_18 d_Mo_write0_67 ?_
    refine lv_aload_n hx hb d_Mo_write0_70 rfl (lv_at hl 1 rfl) ?_
    refine mw_gF0 hx hb hts hown hKW.1 hP lf_Mo_11 d_Mo_write0_71 ?_
    refine lv_iload_n hx hb d_Mo_write0_74 rfl (lv_at hl 2 rfl) ?_
    refine mw_lG hx hb hKW.1 hP (j := i1) (by omega) d_Mo_write0_75 ?_
    refine zV_v (As := [.ref (ad (2 * i1 + 4))]) (rest := []) (n := 1) ⟨hx, hb, hml, hown, hts⟩ (c_Mn_set_N l u _ (i := 10) (a := i1) (by omega) (by omega) (by omega) h3u (hMu.reg hi1)) (cwV0 1 hts lm_Mo_69 im_Mn_set_N se_Mn_set_N in_Mn kq_Mn_set_N rfl rfl rfl (by decide +kernel) ⟨Nat.le_of_ble_eq_true rfl, Nat.le_of_ble_eq_true rfl⟩) (recMn hKW.1 hP (i := 10) (by omega)) hKW hP hD hS rfl hl.1 rfl (Nat.le_of_ble_eq_true rfl) d_Mo_write0_76 ⟨Nat.le_of_ble_eq_true rfl, Nat.le_of_ble_eq_true rfl⟩ (fun w4 H locs hp hP hD hS => ?_)
    obtain ⟨hE4, hV4, h34⟩ := hp
    rw [← hVV] at hV4
    have hP4 : MP w4 A (mX w) := ⟨h34, (hMu.same hE4 h34 (fun j => one10 (by omega))).2.1, (hMu.same hE4 h34 (fun j => one10 (by omega))).2.2.1, hE4.X.trans hE.X⟩
    refine lv_iload_n hx hb d_Mo_write0_79 rfl (lv_at hl 0 rfl) ?_
    refine lv_iconst (v := nI (1)) hx hb d_Mo_write0_80 (by decide) ?_
    refine nw_isub (v := dn n9) hx hb d_Mo_write0_81 (dn_sub _) ?_
    refine lv_istore (lv' := [(4, .int (dn n9)), (3, .int (nI (n9))), (0, .ref (ad 0)), (1, .int (nI (i1))), (2, .int (nI (kk)))]) hx hb d_Mo_write0_82 hl (by decide) rfl (fun ls hl => ?_)
    have lp : ∀ (j : Nat) (u : Mt) (H : Heap) (locs : List Loc) (ls : Array Slot), j ≤ n9 → MP u A (mX w) → NU u 10 (V / kk ^ (n9 - j)) → (∀ z, j ≤ z → z < n9 → mO u z = chr9 (V / kk ^ (n9 - 1 - z) % kk)) → va_P D clA (NM cI cB cR ad (u)) H → va_D (AM ad s.heap.size) (NM cI cB cR ad (u)) → va_S (AM ad s.heap.size) s.heap H locs → lv_has ls 6 [(4, .int (dn j)), (3, .int (nI (n9))), (0, .ref (ad 0)), (1, .int (nI (i1))), (2, .int (nI (kk)))] → W p l e (headSpec (q_Mo_write0 :: wA) { frames := 14, cells := 3, slots := 18, locals := 300 }).room s m ([.ref (ad 0), .int (nI (i1)), .int (nI (kk))] : List Value).toArray below meth c H locs (0 + 1 + 1) (0 + 6 + 6) (vx_MQ below (va_Qi (fun (r : Int32) (w1 : Mt) => okm (mX w) (sp_write (nI i1) (nI kk) A) r w1) (BM D cI cB cR ad) (AM ad s.heap.size)) (XM D cI cB cR ad (fun E u => thm9 (sp_write (nI i1) (nI kk) A) E_IA E_IS E u) s.heap.size) ([.ref (ad 0), .int (nI (i1)), .int (nI (kk))] : List Value).toArray s 3 18 (AM ad s.heap.size)) (F0 m 84 ls []) := by
      intro j
      induction j with
      | zero =>
        intro u H locs ls hj hMP hV hO hP hD hS hl
        refine lv_iload hx hb d_Mo_write0_84 (lv_at hl 0 rfl) ?_
        refine lv_if_lt (tgt := 136) hx hb d_Mo_write0_86 (by decide) (fun c86 => ?_) (fun c86 => ?_)
        · skip
          subst hn
          refine lv_aload_n hx hb d_Mo_write0_136 rfl (lv_at hl 2 rfl) ?_
          refine lv_iload_n hx hb d_Mo_write0_137 rfl (lv_at hl 1 rfl) ?_
          refine mw_pB hx hb hts hown hKW.1 hP hD hS lf_Mo_177 d_Mo_write0_138 (fun H locs hP hD hS => ?_)
          refine lv_iload_n hx hb d_Mo_write0_141 rfl (lv_at hl 1 rfl) ?_
          subst hVV
          exact vx_ret (W.widen (k := 3) (n := 18) (Nat.le_of_ble_eq_true rfl) (Nat.le_of_ble_eq_true rfl) (W.iret (v := nI (ndg kk (aG A i1))) hx hb hr (fun t ht hW => ⟨⟨_, qB u (ndg kk (aG A i1)), rfl, ⟨(A.1, A.2.1, A.2.2.1, fun j => chr9 (aG A i1 / kk ^ (ndg kk (aG A i1) - 1 - j) % kk), ndg kk (aG A i1)), ⟨hMP.1, hMP.2.1, hMP.2.2.1, ⟨rfl, hn2, fun j hj => hO j (Nat.zero_le _) hj⟩⟩, hMP.2.2.2, by unfold sp_write; rw [wni1, wnkk, if_pos hrg, if_neg (by omega)]⟩, BM_of ht hP⟩, hS.F ht⟩) hS.2.2 d_Mo_write0_142))
        · exact absurd dn_0 c86
      | succ j ih =>
        intro u H locs ls hj hMP hV hO hP hD hS hl
        refine lv_iload hx hb d_Mo_write0_84 (lv_at hl 0 rfl) ?_
        refine lv_if_lt (tgt := 136) hx hb d_Mo_write0_86 (by decide) (fun c86 => ?_) (fun c86 => ?_)
        · exact absurd c86 (nI_pos (by omega))
        · skip
          refine lv_aload_n hx hb d_Mo_write0_89 rfl (lv_at hl 2 rfl) ?_
          refine mw_gF1 hx hb hts hown hKW.1 hP lf_Mo_18 d_Mo_write0_90 ?_
          refine lv_iload_n hx hb d_Mo_write0_93 rfl (lv_at hl 4 rfl) ?_
          refine zV_i (As := [.int (nI (kk))]) (rest := []) (n := 1) ⟨hx, hb, hml, hown, hts⟩ (c_Mn_over l u _ (i := 10) (d := kk) (by omega) hMP.1 hV (by omega) (by omega)) (cwV0 1 hts lm_Mo_147 im_Mn_over se_Mn_over in_Mn kq_Mn_over rfl rfl rfl (by decide +kernel) ⟨Nat.le_of_ble_eq_true rfl, Nat.le_of_ble_eq_true rfl⟩) (recMn hKW.1 hP (i := 10) (by omega)) hKW hP hD hS rfl hl.1 rfl (Nat.le_of_ble_eq_true rfl) d_Mo_write0_94 ⟨Nat.le_of_ble_eq_true rfl, Nat.le_of_ble_eq_true rfl⟩ (fun r w6 H locs hp hP hD hS => ?_)
          obtain ⟨er, hE6, hV6, h36⟩ := hp
          obtain ⟨d9, hd9⟩ : ∃ d9, d9 = V / kk ^ (n9 - (j + 1)) % kk := ⟨_, rfl⟩
          rw [← hd9] at er
          subst er
          have hd36 : d9 < 36 := by have := Nat.mod_lt (V / kk ^ (n9 - (j + 1))) (show 0 < kk by omega); omega
          have hM6 := hMP.same hE6 h36 (fun j => one10 (by omega))
          rw [wr_div, show n9 - (j + 1) + 1 = n9 - j by omega] at hV6
          refine lv_istore (lv' := [(5, .int (nI (d9))), (4, .int (nI (j))), (3, .int (nI (n9))), (0, .ref (ad 0)), (1, .int (nI (i1))), (2, .int (nI (kk)))]) hx hb d_Mo_write0_97 hl (by decide) rfl (fun ls hl => ?_)
          refine lv_aload_n hx hb d_Mo_write0_99 rfl (lv_at hl 3 rfl) ?_
          refine mw_gF11 hx hb hts hown hKW.1 hP lf_Mo_50 d_Mo_write0_100 ?_
          refine lv_iload hx hb d_Mo_write0_103 (lv_at hl 1 rfl) ?_
          refine lv_iload hx hb d_Mo_write0_105 (lv_at hl 0 rfl) ?_
          refine lv_bipush (v := nI (10)) hx hb d_Mo_write0_107 (by decide) ?_
          refine lv_icmp_ge (tgt := 120) hx hb d_Mo_write0_109 (by decide) (fun c109 => ?_) (fun c109 => ?_)
          · skip
            have c109 : 10 ≤ d9 := (nI_leI (by omega) (by omega)).mp c109
            refine lv_bipush (v := nI (97)) hx hb d_Mo_write0_120 (by decide) ?_
            refine lv_iload hx hb d_Mo_write0_122 (lv_at hl 0 rfl) ?_
            refine nw_iadd (v := nI (97 + d9)) hx hb d_Mo_write0_124 (nI_add _ _) ?_
            refine lv_bipush (v := nI (10)) hx hb d_Mo_write0_125 (by decide) ?_
            refine nw_isub (v := nI (87 + d9)) hx hb d_Mo_write0_127 ((pk_sub (by omega)).trans (by rw [show 97 + d9 - 10 = 87 + d9 by omega])) ?_
            refine lv_i2b (v := (nI (87 + d9)).toInt8.toInt32) hx hb d_Mo_write0_128 rfl ?_
            refine mw_sO hx hb hKW.1 hP hD hS (j := j) (by omega) d_Mo_write0_129 (fun H locs hP hD hS => ?_)
            refine lv_iinc (v := dn j) (lv' := [(4, .int (dn j)), (5, .int (nI (d9))), (3, .int (nI (n9))), (0, .ref (ad 0)), (1, .int (nI (i1))), (2, .int (nI (kk)))]) hx hb d_Mo_write0_130 hl (k := 1) rfl (dn_dec j) (by decide) rfl (fun ls hl => ?_)
            refine lv_goto (tgt := 84) hx hb d_Mo_write0_133 (by decide) ?_
            refine ih (qO (w6) (upd (mO (w6)) (j) (vp_nar .byte ((nI (87 + d9)).toInt8.toInt32)))) H locs ls (by omega) ⟨hM6.1, hM6.2.1, hM6.2.2.1, hM6.2.2.2⟩ hV6 (fun z hz1 hz2 => ?_) hP hD hS (lv_sub hl [0, 2, 3, 4, 5] rfl)
            show upd (mO w6) j _ z = _
            rcases Nat.lt_or_ge j z with q9 | q9
            · rw [pk_un (by omega), hE6.O]; exact hO z (by omega) hz2
            · rw [show z = j by omega, pk_us, nar_nI (87 + d9) (by omega), show n9 - 1 - j = n9 - (j + 1) by omega, ← hd9]
              unfold chr9
              rw [if_neg (by omega)]
          · skip
            have c109 : ¬ (10 ≤ d9) := fun h => c109 ((nI_leI (by omega) (by omega)).mpr h)
            refine lv_bipush (v := nI (48)) hx hb d_Mo_write0_112 (by decide) ?_
            refine lv_iload hx hb d_Mo_write0_114 (lv_at hl 0 rfl) ?_
            refine nw_iadd (v := nI (48 + d9)) hx hb d_Mo_write0_116 (nI_add _ _) ?_
            refine lv_goto (tgt := 128) hx hb d_Mo_write0_117 (by decide) ?_
            refine lv_i2b (v := (nI (48 + d9)).toInt8.toInt32) hx hb d_Mo_write0_128 rfl ?_
            refine mw_sO hx hb hKW.1 hP hD hS (j := j) (by omega) d_Mo_write0_129 (fun H locs hP hD hS => ?_)
            refine lv_iinc (v := dn j) (lv' := [(4, .int (dn j)), (5, .int (nI (d9))), (3, .int (nI (n9))), (0, .ref (ad 0)), (1, .int (nI (i1))), (2, .int (nI (kk)))]) hx hb d_Mo_write0_130 hl (k := 1) rfl (dn_dec j) (by decide) rfl (fun ls hl => ?_)
            refine lv_goto (tgt := 84) hx hb d_Mo_write0_133 (by decide) ?_
            refine ih (qO (w6) (upd (mO (w6)) (j) (vp_nar .byte ((nI (48 + d9)).toInt8.toInt32)))) H locs ls (by omega) ⟨hM6.1, hM6.2.1, hM6.2.2.1, hM6.2.2.2⟩ hV6 (fun z hz1 hz2 => ?_) hP hD hS (lv_sub hl [0, 2, 3, 4, 5] rfl)
            show upd (mO w6) j _ z = _
            rcases Nat.lt_or_ge j z with q9 | q9
            · rw [pk_un (by omega), hE6.O]; exact hO z (by omega) hz2
            · rw [show z = j by omega, pk_us, nar_nI (48 + d9) (by omega), show n9 - 1 - j = n9 - (j + 1) by omega, ← hd9]
              unfold chr9
              rw [if_pos (by omega)]
    exact lp n9 w4 _ _ ls (Nat.le_refl _) hP4 (by rw [Nat.sub_self, Nat.pow_zero, Nat.div_one]; exact hV4) (fun z h1 h2 => absurd h2 (by omega)) hP hD hS (lv_sub hl [0, 1, 2, 3, 4] rfl)
  have loop : ∀ (q n : Nat) (u : Mt) (H : Heap) (locs : List Loc) (ls : Array Slot), n + q = 20000 → (n = 0 ∨ V / kk ^ n ≠ 0) → eqM w u [10] → NU u 10 (V / kk ^ n) → W3 u → va_P D clA (NM cI cB cR ad (u)) H → va_D (AM ad s.heap.size) (NM cI cB cR ad (u)) → va_S (AM ad s.heap.size) s.heap H locs → lv_has ls 6 [(3, .int (nI (n))), (0, .ref (ad 0)), (1, .int (nI (i1))), (2, .int (nI (kk)))] → W p l e (headSpec (q_Mo_write0 :: wA) { frames := 14, cells := 3, slots := 18, locals := 300 }).room s m ([.ref (ad 0), .int (nI (i1)), .int (nI (kk))] : List Value).toArray below meth c H locs (0 + 1 + 1) (0 + 6 + 6) (vx_MQ below (va_Qi (fun (r : Int32) (w1 : Mt) => okm (mX w) (sp_write (nI i1) (nI kk) A) r w1) (BM D cI cB cR ad) (AM ad s.heap.size)) (XM D cI cB cR ad (fun E u => thm9 (sp_write (nI i1) (nI kk) A) E_IA E_IS E u) s.heap.size) ([.ref (ad 0), .int (nI (i1)), .int (nI (kk))] : List Value).toArray s 3 18 (AM ad s.heap.size)) (F0 m 29 ls []) := by
    intro q
    induction q with
    | zero =>
      intro n u H locs ls hq hnz hE hV h3u hP hD hS hl
      refine lv_aload_n hx hb d_Mo_write0_29 rfl (lv_at hl 1 rfl) ?_
      refine mw_gF1 hx hb hts hown hKW.1 hP lf_Mo_18 d_Mo_write0_30 ?_
      refine lv_iload_n hx hb d_Mo_write0_33 rfl (lv_at hl 3 rfl) ?_
      refine zV_i (As := [.int (nI (kk))]) (rest := []) (n := 1) ⟨hx, hb, hml, hown, hts⟩ (c_Mn_over l u _ (i := 10) (d := kk) (by omega) h3u hV (by omega) (by omega)) (cwV0 1 hts lm_Mo_147 im_Mn_over se_Mn_over in_Mn kq_Mn_over rfl rfl rfl (by decide +kernel) ⟨Nat.le_of_ble_eq_true rfl, Nat.le_of_ble_eq_true rfl⟩) (recMn hKW.1 hP (i := 10) (by omega)) hKW hP hD hS rfl hl.1 rfl (Nat.le_of_ble_eq_true rfl) d_Mo_write0_34 ⟨Nat.le_of_ble_eq_true rfl, Nat.le_of_ble_eq_true rfl⟩ (fun r w6 H locs hp hP hD hS => ?_)
      obtain ⟨er, hE6, hV6, h36⟩ := hp
      rw [wr_div] at hV6
      have hEE := hE.trans hE6
      have hz6 := hV6.zero
      have hl6 := hV6.len
      obtain ⟨L9, hL9⟩ : ∃ L9, mL w6 10 = L9 := ⟨_, rfl⟩
      rw [hL9] at hz6 hl6
      refine lv_pop hx hb d_Mo_write0_37 rfl ?_
      refine lv_iinc (v := nI (n + 1)) (lv' := [(3, .int (nI (n + 1))), (0, .ref (ad 0)), (1, .int (nI (i1))), (2, .int (nI (kk)))]) hx hb d_Mo_write0_38 hl (k := 0) rfl (nI_add _ 1) (by decide) rfl (fun ls hl => ?_)
      refine lv_iload_n hx hb d_Mo_write0_41 rfl (lv_at hl 0 rfl) ?_
      refine lv_sipush (v := nI (20000)) hx hb d_Mo_write0_42 (by decide) ?_
      refine lv_icmp_le (tgt := 56) hx hb d_Mo_write0_45 (by decide) (fun c45 => ?_) (fun c45 => ?_)
      · skip
        have c45 : n + 1 ≤ 20000 := (nI_leI (by omega) (by omega)).mp c45
        omega
      · skip
        have c45 : ¬ (n + 1 ≤ 20000) := fun h => c45 ((nI_leI (by omega) (by omega)).mpr h)
        have hov : 20000 < ndg kk V := by rw [show n = 20000 by omega] at hnz; rcases hnz with z | z; omega; exact wr_over hkkl z
        exact ythrow hx hb hl9 hown (by decide) hts ta_Mo_IS tb_Mo_IS tg_Mo_IS tk_Mo_IS ti_IS hKW hP hS (hl.1.trans hml.symm) d_Mo_write0_48 d_Mo_write0_51 d_Mo_write0_52 d_Mo_write0_55 htab hlocks (Nat.le_of_ble_eq_true rfl) (Nat.le_of_ble_eq_true rfl) (Nat.le_of_ble_eq_true rfl) (Nat.le_of_ble_eq_true rfl) (Nat.le_of_ble_eq_true rfl) (Nat.le_of_ble_eq_true rfl) (⟨A, hMI.same hEE h36 (fun j => one10 (by omega)), Or.inr ⟨rfl, by unfold sp_write; rw [wni1, wnkk, ← hVV, if_pos hrg, if_pos hov]⟩⟩)
    | succ q ih =>
      intro n u H locs ls hq hnz hE hV h3u hP hD hS hl
      refine lv_aload_n hx hb d_Mo_write0_29 rfl (lv_at hl 1 rfl) ?_
      refine mw_gF1 hx hb hts hown hKW.1 hP lf_Mo_18 d_Mo_write0_30 ?_
      refine lv_iload_n hx hb d_Mo_write0_33 rfl (lv_at hl 3 rfl) ?_
      refine zV_i (As := [.int (nI (kk))]) (rest := []) (n := 1) ⟨hx, hb, hml, hown, hts⟩ (c_Mn_over l u _ (i := 10) (d := kk) (by omega) h3u hV (by omega) (by omega)) (cwV0 1 hts lm_Mo_147 im_Mn_over se_Mn_over in_Mn kq_Mn_over rfl rfl rfl (by decide +kernel) ⟨Nat.le_of_ble_eq_true rfl, Nat.le_of_ble_eq_true rfl⟩) (recMn hKW.1 hP (i := 10) (by omega)) hKW hP hD hS rfl hl.1 rfl (Nat.le_of_ble_eq_true rfl) d_Mo_write0_34 ⟨Nat.le_of_ble_eq_true rfl, Nat.le_of_ble_eq_true rfl⟩ (fun r w6 H locs hp hP hD hS => ?_)
      obtain ⟨er, hE6, hV6, h36⟩ := hp
      rw [wr_div] at hV6
      have hEE := hE.trans hE6
      have hz6 := hV6.zero
      have hl6 := hV6.len
      obtain ⟨L9, hL9⟩ : ∃ L9, mL w6 10 = L9 := ⟨_, rfl⟩
      rw [hL9] at hz6 hl6
      refine lv_pop hx hb d_Mo_write0_37 rfl ?_
      refine lv_iinc (v := nI (n + 1)) (lv' := [(3, .int (nI (n + 1))), (0, .ref (ad 0)), (1, .int (nI (i1))), (2, .int (nI (kk)))]) hx hb d_Mo_write0_38 hl (k := 0) rfl (nI_add _ 1) (by decide) rfl (fun ls hl => ?_)
      refine lv_iload_n hx hb d_Mo_write0_41 rfl (lv_at hl 0 rfl) ?_
      refine lv_sipush (v := nI (20000)) hx hb d_Mo_write0_42 (by decide) ?_
      refine lv_icmp_le (tgt := 56) hx hb d_Mo_write0_45 (by decide) (fun c45 => ?_) (fun c45 => ?_)
      · skip
        have c45 : n + 1 ≤ 20000 := (nI_leI (by omega) (by omega)).mp c45
        refine lv_aload_n hx hb d_Mo_write0_56 rfl (lv_at hl 1 rfl) ?_
        refine mw_gF1 hx hb hts hown hKW.1 hP lf_Mo_18 d_Mo_write0_57 ?_
        refine mw_gL hx hb hts hown hKW.1 hP (i := 10) (by omega) (n := L9) hL9 lf_Mo_89 d_Mo_write0_60 ?_
        refine lv_if_gt (tgt := 29) hx hb d_Mo_write0_63 (by decide) (fun c63 => ?_) (fun c63 => ?_)
        · skip
          have c63 : 0 < L9 := (nI_ltI (by omega) (by omega)).mp (by first | (rw [nI_0]; exact c63) | rw [nI_0])
          exact ih (n + 1) w6 H locs ls (by omega) (Or.inr (fun z => by have := hz6.mpr z; omega)) hEE hV6 h36 hP hD hS (lv_sub hl [0, 1, 2, 3] rfl)
        · skip
          have c63 : ¬ (0 < L9) := fun h => c63 (by have := (nI_ltI (by omega) (by omega)).mpr h; rwa [nI_0] at this)
          exact fin (n + 1) w6 H locs ls (wr_end hkkl (hz6.mp (by omega)) hnz) (by omega) hEE h36 hP hD hS (lv_sub hl [0, 1, 2, 3] rfl)
      · skip
        have c45 : ¬ (n + 1 ≤ 20000) := fun h => c45 ((nI_leI (by omega) (by omega)).mpr h)
        omega
  exact loop 20000 0 w2 _ _ ls (by omega) (Or.inl rfl) hE2 (by rw [Nat.pow_zero, Nat.div_one]; exact hV2) h32 hP hD hS (lv_sub hl [0, 1, 2, 3] rfl)
set_option maxHeartbeats 4000000 in
set_option maxRecDepth 100000 in
/-- octet0 -/
theorem c_Mo_octet0 (l : Launch) {D : va_G} {cI cB cR : ClassId} {ad : Nat → Nat} (w : Mt) (sz : Nat) (hl9 : l.stackTraces = false) (n : Int32) (A : Ab) (hMI : MI w A) : vx_Met l y_Mo_octet0 (q_Mo_octet0 :: wA) { frames := 8, cells := 1, slots := 6, locals := 130 } (va_Pc [.ref (ad 0), .int (n)] (PM D cI cB cR ad w sz)) (va_Qi (fun (r : Int32) (w1 : Mt) => okm (mX w) (sp_octet n A) r w1) (BM D cI cB cR ad) (AM ad sz)) (XM D cI cB cR ad (fun E u => thm9 (sp_octet n A) E_NS E_IS E u) sz) 1 6 (AM ad sz) := by
  refine vx_ofW (cc := b_Mo_octet0) (maxL := 2) (ret := (some (.int))) (by decide) rfl ?_
  intro p e s m args below meth c s₁ B hml htab hv
  obtain ⟨rfl, hsz, hP, hD0, hKW⟩ := hv
  have hx := B.exec
  have hb := B.bytes
  have hr := B.returns
  have hts := atoms_spec (ws := q_Mo_octet0 :: wA) B.pre
  have hown : s.vm.findClass R_Mo = some m.cls := findClass_of_methodNamed B.named
  have hlocks := B.notSynchronized
  subst hsz
  have hD := NM_AM (sz := s.heap.size) hD0
  have hS : va_S (AM ad s.heap.size) s.heap s.heap [] := va_S.rf
  have hl := lv_entry ([.ref (ad 0), .int (n)]) (n := 2) (Nat.le_of_ble_eq_true rfl)
  rw [lg_entry_eq]
  generalize (lg_sl ([.ref (ad 0), .int (n)]) ++ List.replicate (2 - (lg_sl ([.ref (ad 0), .int (n)])).length) Slot.unset).toArray = ls at hl ⊢
  have hl : lv_has ls 2 [(0, .ref (ad 0)), (1, .int (n))] := hl
  have h3 := hMI.w3
  obtain ⟨hsB, hm9, hOO⟩ := hMI.2.2.2
  refine lv_iload_n hx hb d_Mo_octet0_0 rfl (lv_at hl 1 rfl) ?_
  refine lv_iconst (v := nI (0)) hx hb d_Mo_octet0_1 (by decide) ?_
  refine lv_aload_n hx hb d_Mo_octet0_2 rfl (lv_at hl 0 rfl) ?_
  refine mw_gF13 hx hb hts hown hKW.1 hP (n := aM A) hsB lf_Mo_177 d_Mo_octet0_3 ?_
  refine lv_iconst (v := nI (1)) hx hb d_Mo_octet0_6 (by decide) ?_
  refine nw_isub (v := dn (aM A)) hx hb d_Mo_octet0_7 (dn_sub _) ?_
  refine zS_i (As := [.int (n), .int (nI (0)), .int (dn (aM A))]) (rest := []) (n := 3) ⟨hx, hb, hml, hown, hts⟩ (c_Mo_in l w _ n (nI 0) (dn (aM A))) (cwS0 3 hts lm_Mo_56 st_Mo_in in_Mo kq_Mo_in rfl rfl rfl (by decide +kernel) ⟨Nat.le_of_ble_eq_true rfl, Nat.le_of_ble_eq_true rfl⟩) hKW hP hD hS rfl hl.1 rfl (Nat.le_of_ble_eq_true rfl) d_Mo_octet0_8 ⟨Nat.zero_le _, Nat.zero_le _⟩ (fun r w1 H locs hp hP hD hS => ?_)
  obtain ⟨ew, hor⟩ := hp
  rw [ew] at hP hD
  rw [oc_dn hm9] at hor
  refine lv_if_ne (tgt := 22) hx hb d_Mo_octet0_11 (by decide) (fun c11 => ?_) (fun c11 => ?_)
  · skip
    have hrg : nI 0 ≤ n ∧ n < nI (aM A) := by rcases hor with z | z; exact z.2; exact absurd z.1 c11
    obtain ⟨kk, hkk, hv⟩ : ∃ kk, kk < aM A ∧ n = nI kk := by
      obtain ⟨kk, _, h2, h4⟩ := rng_ix (a := 0) (b := aM A) (by omega) hrg.1 (Int32.le_of_lt hrg.2) (by omega)
      refine ⟨kk, ?_, h4⟩
      have h5 := hrg.2
      rw [h4] at h5
      exact (nI_ltI (by omega) (by omega)).mp h5
    subst hv
    refine lv_aload_n hx hb d_Mo_octet0_22 rfl (lv_at hl 0 rfl) ?_
    refine mw_gF11 hx hb hts hown hKW.1 hP lf_Mo_50 d_Mo_octet0_23 ?_
    refine lv_iload_n hx hb d_Mo_octet0_26 rfl (lv_at hl 1 rfl) ?_
    refine mw_lO hx hb hKW.1 hP (j := kk) (by omega) (x := aO A kk) (hOO kk hkk) d_Mo_octet0_27 ?_
    exact vx_ret (W.widen (k := 1) (n := 6) (Nat.le_of_ble_eq_true rfl) (Nat.le_of_ble_eq_true rfl) (W.iret (v := aO A kk) hx hb hr (fun t ht hW => ⟨⟨_, w, rfl, ⟨A, hMI, rfl, by unfold sp_octet; rw [wN_small (by omega), if_pos hrg]⟩, BM_of ht hP⟩, hS.F ht⟩) hS.2.2 d_Mo_octet0_28))
  · skip
    have hno : ¬ (nI 0 ≤ n ∧ n < nI (aM A)) := by rcases hor with z | z; exact absurd (z.1.symm.trans c11) (by decide); exact z.2
    exact ythrow hx hb hl9 hown (by decide) hts ta_Mo_NS tb_Mo_NS tg_Mo_NS tk_Mo_NS ti_NS hKW hP hS (hl.1.trans hml.symm) d_Mo_octet0_14 d_Mo_octet0_17 d_Mo_octet0_18 d_Mo_octet0_21 htab hlocks (Nat.le_of_ble_eq_true rfl) (Nat.le_of_ble_eq_true rfl) (Nat.le_of_ble_eq_true rfl) (Nat.le_of_ble_eq_true rfl) (Nat.le_of_ble_eq_true rfl) (Nat.le_of_ble_eq_true rfl) (⟨A, hMI, Or.inl ⟨rfl, if_neg hno⟩⟩)

set_option maxHeartbeats 4000000 in
set_option maxRecDepth 100000 in
/-- Integer.bitCount -/
theorem c_Ji_bitCount (l : Launch) {D : va_G} {cI cB cR : ClassId} {ad : Nat → Nat} (w : St) (sz : Nat) (x : Int32) : Met l y_Ji_bitCount (q_Ji_bitCount :: wA) { frames := 0, cells := 0, slots := 0, locals := 0 } (va_Pc [.int (x)] (PW D cI cB cR ad w sz)) (va_Qi (fun (r : Int32) (w1 : St) => r = bc x ∧ w1 = w) (BW D cI cB cR ad) (AA ad sz)) 0 0 (AA ad sz) := by
  refine Met.ofW (cc := b_Ji_bitCount) (maxL := 1) (ret := (some (.int))) (by decide) rfl ?_
  intro p e s m args below meth c s₁ B hml hv
  obtain ⟨rfl, hsz, hP, hD0, hKW⟩ := hv
  have hx := B.exec
  have hb := B.bytes
  have hr := B.returns
  have hts := atoms_spec (ws := q_Ji_bitCount :: wA) B.pre
  have hown : s.vm.findClass R_Ji = some m.cls := findClass_of_methodNamed B.named
  have hlocks := B.notSynchronized
  subst hsz
  have hD := NC_AA (sz := s.heap.size) hD0
  have hS : va_S (AA ad s.heap.size) s.heap s.heap [] := va_S.rf
  have hl := lv_entry ([.int (x)]) (n := 1) (Nat.le_of_ble_eq_true rfl)
  rw [lg_entry_eq]
  generalize (lg_sl ([.int (x)]) ++ List.replicate (1 - (lg_sl ([.int (x)])).length) Slot.unset).toArray = ls at hl ⊢
  have hl : lv_has ls 1 [(0, .int (x))] := hl
  refine lv_iload_n hx hb d_Ji_bitCount_0 rfl (lv_at hl 0 rfl) ?_
  refine lv_iload_n hx hb d_Ji_bitCount_1 rfl (lv_at hl 0 rfl) ?_
  refine lv_iconst (v := nI (1)) hx hb d_Ji_bitCount_2 (by decide) ?_
  refine lv_iushr (v := us x 1) hx hb d_Ji_bitCount_3 rfl ?_
  refine lv_ldcw (v := 1431655765) hx hb hown (hA_ hts lk_Ji_265) d_Ji_bitCount_4 ?_
  refine nw_iand (v := (us x 1) &&& 1431655765) hx hb d_Ji_bitCount_7 rfl ?_
  refine nw_isub (v := x - ((us x 1) &&& 1431655765)) hx hb d_Ji_bitCount_8 rfl ?_
  refine lv_topi (fun z1 e1 => ?_)
  refine lv_istore_n (lv' := [(0, .int (z1))]) hx hb d_Ji_bitCount_9 rfl hl (by decide) rfl (fun ls hl => ?_)
  refine lv_iload_n hx hb d_Ji_bitCount_10 rfl (lv_at hl 0 rfl) ?_
  refine lv_ldcw (v := 858993459) hx hb hown (hA_ hts lk_Ji_266) d_Ji_bitCount_11 ?_
  refine nw_iand (v := z1 &&& 858993459) hx hb d_Ji_bitCount_14 rfl ?_
  refine lv_iload_n hx hb d_Ji_bitCount_15 rfl (lv_at hl 0 rfl) ?_
  refine lv_iconst (v := nI (2)) hx hb d_Ji_bitCount_16 (by decide) ?_
  refine lv_iushr (v := us z1 2) hx hb d_Ji_bitCount_17 rfl ?_
  refine lv_ldcw (v := 858993459) hx hb hown (hA_ hts lk_Ji_266) d_Ji_bitCount_18 ?_
  refine nw_iand (v := (us z1 2) &&& 858993459) hx hb d_Ji_bitCount_21 rfl ?_
  refine nw_iadd (v := (z1 &&& 858993459) + ((us z1 2) &&& 858993459)) hx hb d_Ji_bitCount_22 rfl ?_
  refine lv_topi (fun z2 e2 => ?_)
  refine lv_istore_n (lv' := [(0, .int (z2))]) hx hb d_Ji_bitCount_23 rfl hl (by decide) rfl (fun ls hl => ?_)
  refine lv_iload_n hx hb d_Ji_bitCount_24 rfl (lv_at hl 0 rfl) ?_
  refine lv_iload_n hx hb d_Ji_bitCount_25 rfl (lv_at hl 0 rfl) ?_
  refine lv_iconst (v := nI (4)) hx hb d_Ji_bitCount_26 (by decide) ?_
  refine lv_iushr (v := us z2 4) hx hb d_Ji_bitCount_27 rfl ?_
  refine nw_iadd (v := z2 + (us z2 4)) hx hb d_Ji_bitCount_28 rfl ?_
  refine lv_ldcw (v := 252645135) hx hb hown (hA_ hts lk_Ji_267) d_Ji_bitCount_29 ?_
  refine nw_iand (v := (z2 + (us z2 4)) &&& 252645135) hx hb d_Ji_bitCount_32 rfl ?_
  refine lv_topi (fun z3 e3 => ?_)
  refine lv_istore_n (lv' := [(0, .int (z3))]) hx hb d_Ji_bitCount_33 rfl hl (by decide) rfl (fun ls hl => ?_)
  refine lv_iload_n hx hb d_Ji_bitCount_34 rfl (lv_at hl 0 rfl) ?_
  refine lv_iload_n hx hb d_Ji_bitCount_35 rfl (lv_at hl 0 rfl) ?_
  refine lv_bipush (v := nI (8)) hx hb d_Ji_bitCount_36 (by decide) ?_
  refine lv_iushr (v := us z3 8) hx hb d_Ji_bitCount_38 rfl ?_
  refine nw_iadd (v := z3 + (us z3 8)) hx hb d_Ji_bitCount_39 rfl ?_
  refine lv_topi (fun z4 e4 => ?_)
  refine lv_istore_n (lv' := [(0, .int (z4))]) hx hb d_Ji_bitCount_40 rfl hl (by decide) rfl (fun ls hl => ?_)
  refine lv_iload_n hx hb d_Ji_bitCount_41 rfl (lv_at hl 0 rfl) ?_
  refine lv_iload_n hx hb d_Ji_bitCount_42 rfl (lv_at hl 0 rfl) ?_
  refine lv_bipush (v := nI (16)) hx hb d_Ji_bitCount_43 (by decide) ?_
  refine lv_iushr (v := us z4 16) hx hb d_Ji_bitCount_45 rfl ?_
  refine nw_iadd (v := z4 + (us z4 16)) hx hb d_Ji_bitCount_46 rfl ?_
  refine lv_topi (fun z5 e5 => ?_)
  refine lv_istore_n (lv' := [(0, .int (z5))]) hx hb d_Ji_bitCount_47 rfl hl (by decide) rfl (fun ls hl => ?_)
  refine lv_iload_n hx hb d_Ji_bitCount_48 rfl (lv_at hl 0 rfl) ?_
  refine lv_bipush (v := nI (63)) hx hb d_Ji_bitCount_49 (by decide) ?_
  refine nw_iand (v := z5 &&& (nI (63))) hx hb d_Ji_bitCount_51 rfl ?_
  exact W.iret (v := z5 &&& (nI (63))) hx hb hr (fun t ht hW => ⟨⟨_, w, rfl, ⟨by subst e1 e2 e3 e4 e5; rfl, rfl⟩, BW_of ht hP⟩, hS.F ht⟩) hS.2.2 d_Ji_bitCount_52
set_option maxHeartbeats 4000000 in
set_option maxRecDepth 100000 in
/-- bitsOf(word) -/
theorem c_Lw_bitsOf (l : Launch) {D : va_G} {cI cB cR : ClassId} {ad : Nat → Nat} (w : St) (sz : Nat) (x : Int32) : Met l y_Lw_bitsOf (q_Lw_bitsOf :: wA) { frames := 1, cells := 0, slots := 0, locals := 20 } (va_Pc [.int (x)] (PW D cI cB cR ad w sz)) (va_Qi (fun (r : Int32) (w1 : St) => r = nI (nb (wN x)) ∧ w1 = w) (BW D cI cB cR ad) (AA ad sz)) 0 0 (AA ad sz) := by
  refine Met.ofW (cc := b_Lw_bitsOf) (maxL := 2) (ret := (some (.int))) (by decide) rfl ?_
  intro p e s m args below meth c s₁ B hml hv
  obtain ⟨rfl, hsz, hP, hD0, hKW⟩ := hv
  have hx := B.exec
  have hb := B.bytes
  have hr := B.returns
  have hts := atoms_spec (ws := q_Lw_bitsOf :: wA) B.pre
  have hown : s.vm.findClass R_Lw = some m.cls := findClass_of_methodNamed B.named
  have hlocks := B.notSynchronized
  subst hsz
  have hD := NC_AA (sz := s.heap.size) hD0
  have hS : va_S (AA ad s.heap.size) s.heap s.heap [] := va_S.rf
  have hl := lv_entry ([.int (x)]) (n := 2) (Nat.le_of_ble_eq_true rfl)
  rw [lg_entry_eq]
  generalize (lg_sl ([.int (x)]) ++ List.replicate (2 - (lg_sl ([.int (x)])).length) Slot.unset).toArray = ls at hl ⊢
  have hl : lv_has ls 2 [(0, .int (x))] := hl
  refine lv_iload_n hx hb d_Lw_bitsOf_0 rfl (lv_at hl 0 rfl) ?_
  refine lv_iload_n hx hb d_Lw_bitsOf_1 rfl (lv_at hl 0 rfl) ?_
  refine lv_iconst (v := nI (1)) hx hb d_Lw_bitsOf_2 (by decide) ?_
  refine lv_iushr (v := us x 1) hx hb d_Lw_bitsOf_3 rfl ?_
  refine nw_ior (v := x ||| (us x 1)) hx hb d_Lw_bitsOf_4 rfl ?_
  refine lv_topi (fun z1 e1 => ?_)
  refine lv_istore_n (lv' := [(1, .int (z1)), (0, .int (x))]) hx hb d_Lw_bitsOf_5 rfl hl (by decide) rfl (fun ls hl => ?_)
  refine lv_iload_n hx hb d_Lw_bitsOf_6 rfl (lv_at hl 0 rfl) ?_
  refine lv_iload_n hx hb d_Lw_bitsOf_7 rfl (lv_at hl 0 rfl) ?_
  refine lv_iconst (v := nI (2)) hx hb d_Lw_bitsOf_8 (by decide) ?_
  refine lv_iushr (v := us z1 2) hx hb d_Lw_bitsOf_9 rfl ?_
  refine nw_ior (v := z1 ||| (us z1 2)) hx hb d_Lw_bitsOf_10 rfl ?_
  refine lv_topi (fun z2 e2 => ?_)
  refine lv_istore_n (lv' := [(1, .int (z2)), (0, .int (x))]) hx hb d_Lw_bitsOf_11 rfl hl (by decide) rfl (fun ls hl => ?_)
  refine lv_iload_n hx hb d_Lw_bitsOf_12 rfl (lv_at hl 0 rfl) ?_
  refine lv_iload_n hx hb d_Lw_bitsOf_13 rfl (lv_at hl 0 rfl) ?_
  refine lv_iconst (v := nI (4)) hx hb d_Lw_bitsOf_14 (by decide) ?_
  refine lv_iushr (v := us z2 4) hx hb d_Lw_bitsOf_15 rfl ?_
  refine nw_ior (v := z2 ||| (us z2 4)) hx hb d_Lw_bitsOf_16 rfl ?_
  refine lv_topi (fun z3 e3 => ?_)
  refine lv_istore_n (lv' := [(1, .int (z3)), (0, .int (x))]) hx hb d_Lw_bitsOf_17 rfl hl (by decide) rfl (fun ls hl => ?_)
  refine lv_iload_n hx hb d_Lw_bitsOf_18 rfl (lv_at hl 0 rfl) ?_
  refine lv_iload_n hx hb d_Lw_bitsOf_19 rfl (lv_at hl 0 rfl) ?_
  refine lv_bipush (v := nI (8)) hx hb d_Lw_bitsOf_20 (by decide) ?_
  refine lv_iushr (v := us z3 8) hx hb d_Lw_bitsOf_22 rfl ?_
  refine nw_ior (v := z3 ||| (us z3 8)) hx hb d_Lw_bitsOf_23 rfl ?_
  refine lv_topi (fun z4 e4 => ?_)
  refine lv_istore_n (lv' := [(1, .int (z4)), (0, .int (x))]) hx hb d_Lw_bitsOf_24 rfl hl (by decide) rfl (fun ls hl => ?_)
  refine lv_iload_n hx hb d_Lw_bitsOf_25 rfl (lv_at hl 0 rfl) ?_
  refine lv_iload_n hx hb d_Lw_bitsOf_26 rfl (lv_at hl 0 rfl) ?_
  refine lv_bipush (v := nI (16)) hx hb d_Lw_bitsOf_27 (by decide) ?_
  refine lv_iushr (v := us z4 16) hx hb d_Lw_bitsOf_29 rfl ?_
  refine nw_ior (v := z4 ||| (us z4 16)) hx hb d_Lw_bitsOf_30 rfl ?_
  refine lv_topi (fun z5 e5 => ?_)
  refine lv_istore_n (lv' := [(1, .int (z5)), (0, .int (x))]) hx hb d_Lw_bitsOf_31 rfl hl (by decide) rfl (fun ls hl => ?_)
  refine lv_iload_n hx hb d_Lw_bitsOf_32 rfl (lv_at hl 0 rfl) ?_
  refine wS_i (As := [.int z5]) (rest := []) (n := 1) ⟨hx, hb, hml, hown, hts⟩ (c_Ji_bitCount l w _ z5) (cwS0 1 hts lm_Lw_169 st_Ji_bitCount in_Ji kq_Ji_bitCount rfl rfl rfl (by decide +kernel) ⟨Nat.le_of_ble_eq_true rfl, Nat.le_of_ble_eq_true rfl⟩) hKW hP hD hS rfl hl.1 rfl (by decide) d_Lw_bitsOf_33 ⟨Nat.zero_le _, Nat.zero_le _⟩ (fun r w1 H locs hp hP hD hS => ?_)
  obtain ⟨hp, ew⟩ := hp
  rw [ew] at hP hD
  exact W.iret (v := r) hx hb hr (fun t ht hW => ⟨⟨_, _, rfl, ⟨hp.trans (bits_smear e1 e2 e3 e4 e5), rfl⟩, BW_of ht hP⟩, hS.F ht⟩) hS.2.2 d_Lw_bitsOf_36

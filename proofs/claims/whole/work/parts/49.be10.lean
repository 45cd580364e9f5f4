/-! THE BENCH: putProduct, putPower (rows laid by wip/whole/gen/c_be10.py) -/
set_option maxHeartbeats 4000000 in
set_option maxRecDepth 100000 in
/-- putProduct(target, a, b) -/
theorem c_Be_putProduct (l : Launch) {D : va_G} {cI cB cR : ClassId} {ad : Nat → Nat} (w : St) (sz : Nat) {i a b v u : Nat} (hi : i < 14) (ha : a < 14) (hb14 : b < 14) (hv : NV w a v) (hu : NV w b u) (hfit : sL w a + sL w b ≤ 6272) : Met l y_Be_putProduct (q_Be_putProduct :: wA) { frames := 45, cells := 0, slots := 0, locals := 1800 } (va_Pc [.ref (ad 2), .ref (ad (2 * i + 8)), .ref (ad (2 * a + 8)), .ref (ad (2 * b + 8))] (PW D cI cB cR ad w sz)) (va_Qv (fun w1 : St => eqB w w1 [i] ∧ NV w1 i (v * u)) (BW D cI cB cR ad) (AA ad sz)) 0 0 (AA ad sz) := by
  refine Met.ofW (cc := b_Be_putProduct) (maxL := 8) (ret := none) (by decide) rfl ?_
  intro p e s m args below meth c s₁ B hml hv
  obtain ⟨rfl, hsz, hP, hD0, hKW⟩ := hv
  have hx := B.exec
  have hb := B.bytes
  have hr := B.returns
  have hts := atoms_spec (ws := q_Be_putProduct :: wA) B.pre
  have hown : s.vm.findClass R_Be = some m.cls := findClass_of_methodNamed B.named
  have hlocks := B.notSynchronized
  subst hsz
  have hD := NC_AA (sz := s.heap.size) hD0
  have hS : va_S (AA ad s.heap.size) s.heap s.heap [] := va_S.rf
  have hl := lv_entry ([.ref (ad 2), .ref (ad (2 * i + 8)), .ref (ad (2 * a + 8)), .ref (ad (2 * b + 8))]) (n := 8) (Nat.le_of_ble_eq_true rfl)
  rw [lg_entry_eq]
  generalize (lg_sl ([.ref (ad 2), .ref (ad (2 * i + 8)), .ref (ad (2 * a + 8)), .ref (ad (2 * b + 8))]) ++ List.replicate (8 - (lg_sl ([.ref (ad 2), .ref (ad (2 * i + 8)), .ref (ad (2 * a + 8)), .ref (ad (2 * b + 8))])).length) Slot.unset).toArray = ls at hl ⊢
  have hl : lv_has ls 8 [(0, .ref (ad 2)), (1, .ref (ad (2 * i + 8))), (2, .ref (ad (2 * a + 8))), (3, .ref (ad (2 * b + 8)))] := hl
  obtain ⟨an, han⟩ : ∃ an, an = sL w a := ⟨_, rfl⟩
  obtain ⟨bn, hbn⟩ : ∃ bn, bn = sL w b := ⟨_, rfl⟩
  rw [← han, ← hbn] at hfit
  refine lv_aload_n hx hb d_Be_putProduct_0 rfl (lv_at hl 2 rfl) ?_
  refine nw_gL hx hb hts hown hKW.1 hP (i := a) (by omega) (n := an) han.symm lf_Be_15 d_Be_putProduct_1 ?_
  refine lv_istore (lv' := [(4, .int (nI (an))), (0, .ref (ad 2)), (1, .ref (ad (2 * i + 8))), (2, .ref (ad (2 * a + 8))), (3, .ref (ad (2 * b + 8)))]) hx hb d_Be_putProduct_4 hl (by decide) rfl (fun ls hl => ?_)
  refine lv_aload_n hx hb d_Be_putProduct_6 rfl (lv_at hl 4 rfl) ?_
  refine nw_gL hx hb hts hown hKW.1 hP (i := b) (by omega) (n := bn) hbn.symm lf_Be_15 d_Be_putProduct_7 ?_
  refine lv_istore (lv' := [(5, .int (nI (bn))), (4, .int (nI (an))), (0, .ref (ad 2)), (1, .ref (ad (2 * i + 8))), (2, .ref (ad (2 * a + 8))), (3, .ref (ad (2 * b + 8)))]) hx hb d_Be_putProduct_10 hl (by decide) rfl (fun ls hl => ?_)
  refine lv_iload hx hb d_Be_putProduct_12 (lv_at hl 1 rfl) ?_
  refine lv_if_eq (tgt := 22) hx hb d_Be_putProduct_14 (by decide) (fun c14 => ?_) (fun c14 => ?_)
  · skip
    have c14 : an = 0 := (nI_eq (by omega) (by omega)).mp (by rw [nI_0]; exact c14)
    have hz : v = 0 := hv.zero.mp (by omega)
    refine lv_aload_n hx hb d_Be_putProduct_22 rfl (lv_at hl 3 rfl) ?_
    refine lv_iconst (v := nI (0)) hx hb d_Be_putProduct_23 (by decide) ?_
    refine nw_pL hx hb hts hown hKW.1 hP hD hS (i := i) (by omega) lf_Be_15 d_Be_putProduct_24 (fun H locs hP hD hS => ?_)
    exact W.vret hx hb hr (fun t ht hW => ⟨⟨pL (w) i (0), rfl, ⟨(eqN_0 w i 0).B (List.mem_singleton.mpr rfl), by rw [hz, Nat.zero_mul]; exact NV_z w i⟩, BW_of ht hP⟩, hS.F ht⟩) hS.2.2 d_Be_putProduct_27
  · skip
    have c14 : ¬ (an = 0) := fun h => c14 (by have := (nI_eq (by omega) (by omega)).mpr h; rwa [nI_0] at this)
    refine lv_iload hx hb d_Be_putProduct_17 (lv_at hl 0 rfl) ?_
    refine lv_if_ne (tgt := 28) hx hb d_Be_putProduct_19 (by decide) (fun c19 => ?_) (fun c19 => ?_)
    · skip
      have c19 : ¬ (bn = 0) := fun h => c19 (by have := (nI_eq (by omega) (by omega)).mpr h; rwa [nI_0] at this)
      refine lv_aload_n hx hb d_Be_putProduct_28 rfl (lv_at hl 4 rfl) ?_
      refine lv_aload_n hx hb d_Be_putProduct_29 rfl (lv_at hl 5 rfl) ?_
      have rest : ∀ (rt : Nat) (ls : Array Slot), (a = b ∧ rt = 0 ∨ rt = an) → lv_has ls 8 [(6, .int (nI (rt))), (5, .int (nI (bn))), (4, .int (nI (an))), (0, .ref (ad 2)), (1, .ref (ad (2 * i + 8))), (2, .ref (ad (2 * a + 8))), (3, .ref (ad (2 * b + 8)))] → W p l e (headSpec (q_Be_putProduct :: wA) { frames := 45, cells := 0, slots := 0, locals := 1800 }).room s m ([.ref (ad 2), .ref (ad (2 * i + 8)), .ref (ad (2 * a + 8)), .ref (ad (2 * b + 8))] : List Value).toArray below meth c s.heap [] 0 0 (MQ below (va_Qv (fun w1 : St => eqB w w1 [i] ∧ NV w1 i (v * u)) (BW D cI cB cR ad) (AA ad s.heap.size)) ([.ref (ad 2), .ref (ad (2 * i + 8)), .ref (ad (2 * a + 8)), .ref (ad (2 * b + 8))] : List Value).toArray s 0 0 (AA ad s.heap.size)) (F0 m 41 ls []) := by
        intro rt ls hrt hl
        refine lv_iload hx hb d_Be_putProduct_41 (lv_at hl 2 rfl) ?_
        refine lv_iload hx hb d_Be_putProduct_43 (lv_at hl 1 rfl) ?_
        refine nw_iadd (v := nI (an + bn)) hx hb d_Be_putProduct_45 (nI_add _ _) ?_
        refine lv_istore (lv' := [(7, .int (nI (an + bn))), (6, .int (nI (rt))), (5, .int (nI (bn))), (4, .int (nI (an))), (0, .ref (ad 2)), (1, .ref (ad (2 * i + 8))), (2, .ref (ad (2 * a + 8))), (3, .ref (ad (2 * b + 8)))]) hx hb d_Be_putProduct_46 hl (by decide) rfl (fun ls hl => ?_)
        refine lv_aload_n hx hb d_Be_putProduct_48 rfl (lv_at hl 6 rfl) ?_
        refine nw_gW hx hb hts hown hKW.1 hP (i := a) (by omega) lf_Be_21 d_Be_putProduct_49 ?_
        refine lv_iconst (v := nI (0)) hx hb d_Be_putProduct_52 (by decide) ?_
        refine lv_aload_n hx hb d_Be_putProduct_53 rfl (lv_at hl 4 rfl) ?_
        refine nw_gR hx hb hts hown hKW.1 hP lf_Be_11 d_Be_putProduct_54 ?_
        refine lv_iconst (v := nI (0)) hx hb d_Be_putProduct_57 (by decide) ?_
        refine lv_iload hx hb d_Be_putProduct_58 (lv_at hl 3 rfl) ?_
        refine nw_cWR hx hb (hml.trans hl.1.symm) hts hown lm_Be_24 hKW.1 hP hD hS (a := a) ha (sp := 0) (dp := 0) (n := an) (by omega) (by omega) (Nat.le_of_ble_eq_true rfl) (by decide) d_Be_putProduct_60 (fun H locs hP hD hS => ?_)
        obtain ⟨f1, hf1⟩ : ∃ f1, f1 = va_cpy (sW w a) (sR w) 0 0 an := ⟨_, rfl⟩
        have hP : va_P D clA (NC cI cB cR ad (pR w f1)) H := by rw [hf1]; exact hP
        have hD : va_D (AA ad s.heap.size) (NC cI cB cR ad (pR w f1)) := by rw [hf1]; exact hD
        refine lv_aload_n hx hb d_Be_putProduct_63 rfl (lv_at hl 7 rfl) ?_
        refine nw_gW hx hb hts hown hKW.1 hP (i := b) (by omega) lf_Be_21 d_Be_putProduct_64 ?_
        refine lv_iconst (v := nI (0)) hx hb d_Be_putProduct_67 (by decide) ?_
        refine lv_aload_n hx hb d_Be_putProduct_68 rfl (lv_at hl 4 rfl) ?_
        refine nw_gR hx hb hts hown hKW.1 hP lf_Be_11 d_Be_putProduct_69 ?_
        refine lv_iload hx hb d_Be_putProduct_72 (lv_at hl 1 rfl) ?_
        refine lv_iload hx hb d_Be_putProduct_74 (lv_at hl 2 rfl) ?_
        refine nw_cWR hx hb (hml.trans hl.1.symm) hts hown lm_Be_24 hKW.1 hP hD hS (a := b) hb14 (sp := 0) (dp := rt) (n := bn) (by omega) (by omega) (Nat.le_of_ble_eq_true rfl) (by decide) d_Be_putProduct_76 (fun H locs hP hD hS => ?_)
        obtain ⟨f2, hf2⟩ : ∃ f2, f2 = va_cpy (sW w b) f1 0 rt bn := ⟨_, rfl⟩
        have hP : va_P D clA (NC cI cB cR ad (pR w f2)) H := by rw [hf2]; exact hP
        have hD : va_D (AA ad s.heap.size) (NC cI cB cR ad (pR w f2)) := by rw [hf2]; exact hD
        have hvu : vN f2 rt bn = u := by rw [hf2, cpy_vN, hbn]; exact hu.2.2
        have hvv : vN f2 0 an = v := by
          rcases hrt with ⟨e0, e1⟩ | e1
          · subst e0
            rw [e1] at hvu
            have e2 : an = bn := by rw [han, hbn]
            rw [e2, hvu, ← hu.2.2, ← hv.2.2]
          · rw [vN_congr (f := f2) (g := f1) (a := 0) (b := 0) (n := an) (fun j hj => by rw [hf2]; exact cpy_out (by omega)), hf1, cpy_vN, han]
            exact hv.2.2
        have hab9 : a = b → an = bn := fun q => by rw [han, hbn, q]
        refine lv_aload_n hx hb d_Be_putProduct_79 rfl (lv_at hl 4 rfl) ?_
        refine lv_iload hx hb d_Be_putProduct_80 (lv_at hl 0 rfl) ?_
        refine lv_iconst (v := nI (0)) hx hb d_Be_putProduct_82 (by decide) ?_
        refine lv_iload hx hb d_Be_putProduct_83 (lv_at hl 3 rfl) ?_
        refine lv_iload hx hb d_Be_putProduct_85 (lv_at hl 1 rfl) ?_
        refine lv_iload hx hb d_Be_putProduct_87 (lv_at hl 2 rfl) ?_
        refine lv_iload hx hb d_Be_putProduct_89 (lv_at hl 0 rfl) ?_
        refine lv_iload hx hb d_Be_putProduct_91 (lv_at hl 3 rfl) ?_
        refine nw_iadd (v := nI (an + bn + an)) hx hb d_Be_putProduct_93 (nI_add _ _) ?_
        refine lv_iload hx hb d_Be_putProduct_94 (lv_at hl 2 rfl) ?_
        refine nw_iadd (v := nI (an + bn + an + bn)) hx hb d_Be_putProduct_96 (nI_add _ _) ?_
        refine lv_bipush (v := nI (20)) hx hb d_Be_putProduct_97 (by decide) ?_
        refine wV_v (As := [.int (nI (an + bn)), .int (nI (0)), .int (nI (an)), .int (nI (rt)), .int (nI (bn)), .int (nI (an + bn + an + bn)), .int (nI (20))]) (rest := []) (n := 7) ⟨hx, hb, hml, hown, hts⟩ (mulAll l 20 (by omega) (pR w f2) _ (r0 := an + bn) (a0 := 0) (an := an) (b0 := rt) (bn := bn) (fr := an + bn + an + bn) (by omega) (by omega) (by omega) (by omega) (by omega) (by omega) (by omega) (by omega) (by omega) (by omega)) (cwV0 7 hts lm_Be_30 im_Be_multiply se_Be_multiply in_Be kq_Be_multiply rfl rfl rfl (by decide +kernel) ⟨Nat.le_of_ble_eq_true rfl, Nat.le_of_ble_eq_true rfl⟩) (recvB hKW.1 hP) hKW hP hD hS rfl hl.1 rfl (Nat.le_of_ble_eq_true rfl) d_Be_putProduct_99 ⟨Nat.zero_le _, Nat.zero_le _⟩ (fun w1 H locs hp hP hD hS => ?_)
        obtain ⟨f3, ew, _, hv3⟩ := hp
        rw [ew] at hP hD
        have hv3 : vN f3 (an + bn) (an + bn) = vN f2 0 an * vN f2 rt bn := hv3
        rw [hvv, hvu] at hv3
        refine lv_aload_n hx hb d_Be_putProduct_102 rfl (lv_at hl 4 rfl) ?_
        refine nw_gR hx hb hts hown hKW.1 hP lf_Be_11 d_Be_putProduct_103 ?_
        refine lv_iload hx hb d_Be_putProduct_106 (lv_at hl 0 rfl) ?_
        refine lv_aload_n hx hb d_Be_putProduct_108 rfl (lv_at hl 5 rfl) ?_
        refine nw_gW hx hb hts hown hKW.1 hP (i := i) (by omega) lf_Be_21 d_Be_putProduct_109 ?_
        refine lv_iconst (v := nI (0)) hx hb d_Be_putProduct_112 (by decide) ?_
        refine lv_iload hx hb d_Be_putProduct_113 (lv_at hl 3 rfl) ?_
        refine lv_iload hx hb d_Be_putProduct_115 (lv_at hl 2 rfl) ?_
        refine nw_iadd (v := nI (an + bn)) hx hb d_Be_putProduct_117 (nI_add _ _) ?_
        refine nw_cRW hx hb (hml.trans hl.1.symm) hts hown lm_Be_24 hKW.1 hP hD hS (i := i) hi (sp := an + bn) (dp := 0) (n := an + bn) (by omega) (by omega) (Nat.le_of_ble_eq_true rfl) (by decide) d_Be_putProduct_118 (fun H locs hP hD hS => ?_)
        obtain ⟨F9, hF9⟩ : ∃ F9, F9 = va_cpy f3 (sW w i) (an + bn) 0 (an + bn) := ⟨_, rfl⟩
        have hP : va_P D clA (NC cI cB cR ad (pW (pR w f3) i F9)) H := by rw [hF9]; exact hP
        have hD : va_D (AA ad s.heap.size) (NC cI cB cR ad (pW (pR w f3) i F9)) := by rw [hF9]; exact hD
        have hvF : vN F9 0 (an + bn) = v * u := by rw [hF9, cpy_vN, hv3]
        refine lv_aload_n hx hb d_Be_putProduct_121 rfl (lv_at hl 5 rfl) ?_
        refine lv_iload hx hb d_Be_putProduct_122 (lv_at hl 3 rfl) ?_
        refine lv_iload hx hb d_Be_putProduct_124 (lv_at hl 2 rfl) ?_
        refine nw_iadd (v := nI (an + bn)) hx hb d_Be_putProduct_126 (nI_add _ _) ?_
        refine wV_v (As := [.int (nI (an + bn))]) (rest := []) (n := 1) ⟨hx, hb, hml, hown, hts⟩ (c_Na_trim l (pW (pR w f3) i F9) _ (i := i) (n := an + bn) hi (by omega)) (cwV0 1 hts lm_Be_34 im_Na_trim se_Na_trim in_Na kq_Na_trim rfl rfl rfl (by decide +kernel) ⟨Nat.le_of_ble_eq_true rfl, Nat.le_of_ble_eq_true rfl⟩) (recvN hKW.1 hP (i := i) (by omega)) hKW hP hD hS rfl hl.1 rfl (Nat.le_of_ble_eq_true rfl) d_Be_putProduct_127 ⟨Nat.zero_le _, Nat.zero_le _⟩ (fun w1 H locs hp hP hD hS => ?_)
        rw [hp, show sW (pW (pR w f3) i F9) i = F9 from sW_pW _ _ _] at hP hD
        exact W.vret hx hb hr (fun t ht hW => ⟨⟨pL (pW (pR w f3) i F9) i (tl F9 (an + bn)), rfl, ⟨(eqB_pR w f3 [i]).trans ((eqN_tr _ i _ _).B (List.mem_singleton.mpr rfl)), hvF ▸ NV_tr (by omega)⟩, BW_of ht hP⟩, hS.F ht⟩) hS.2.2 d_Be_putProduct_130
      refine lv_acmp_ne (rx := some (ad (2 * a + 8))) (ry := some (ad (2 * b + 8))) (tgt := 37) hx hb d_Be_putProduct_30 (by decide) (fun c30 => ?_) (fun c30 => ?_)
      · skip
        refine lv_iload hx hb d_Be_putProduct_37 (lv_at hl 1 rfl) ?_
        refine lv_istore (lv' := [(6, .int (nI (an))), (5, .int (nI (bn))), (4, .int (nI (an))), (0, .ref (ad 2)), (1, .ref (ad (2 * i + 8))), (2, .ref (ad (2 * a + 8))), (3, .ref (ad (2 * b + 8)))]) hx hb d_Be_putProduct_39 hl (by decide) rfl (fun ls hl => ?_)
        exact rest an ls (Or.inr rfl) hl
      · skip
        have hab : a = b := by have := ad_inj hD (by omega) (by omega) (Option.some.inj c30); omega
        refine lv_iconst (v := nI (0)) hx hb d_Be_putProduct_33 (by decide) ?_
        refine lv_goto (tgt := 39) hx hb d_Be_putProduct_34 (by decide) ?_
        refine lv_istore (lv' := [(6, .int (nI (0))), (5, .int (nI (bn))), (4, .int (nI (an))), (0, .ref (ad 2)), (1, .ref (ad (2 * i + 8))), (2, .ref (ad (2 * a + 8))), (3, .ref (ad (2 * b + 8)))]) hx hb d_Be_putProduct_39 hl (by decide) rfl (fun ls hl => ?_)
        exact rest 0 ls (Or.inl ⟨hab, rfl⟩) hl
    · skip
      have c19 : bn = 0 := (nI_eq (by omega) (by omega)).mp (by rw [nI_0]; exact c19)
      have hz : u = 0 := hu.zero.mp (by omega)
      refine lv_aload_n hx hb d_Be_putProduct_22 rfl (lv_at hl 3 rfl) ?_
      refine lv_iconst (v := nI (0)) hx hb d_Be_putProduct_23 (by decide) ?_
      refine nw_pL hx hb hts hown hKW.1 hP hD hS (i := i) (by omega) lf_Be_15 d_Be_putProduct_24 (fun H locs hP hD hS => ?_)
      exact W.vret hx hb hr (fun t ht hW => ⟨⟨pL (w) i (0), rfl, ⟨(eqN_0 w i 0).B (List.mem_singleton.mpr rfl), by rw [hz, Nat.mul_zero]; exact NV_z w i⟩, BW_of ht hP⟩, hS.F ht⟩) hS.2.2 d_Be_putProduct_27
set_option maxHeartbeats 4000000 in
set_option maxRecDepth 100000 in
/-- putPower(target, base, n) -/
theorem c_Be_putPower (l : Launch) {D : va_G} {cI cB cR : ClassId} {ad : Nat → Nat} (w : St) (sz : Nat) {i a v n : Nat} (hi : i < 14) (ha : a < 14) (hia : a ≠ i) (hv : NV w a v) (hn : n ≤ 100) (hfit : v ^ n < 2 ^ 200640) : Met l y_Be_putPower (q_Be_putPower :: wA) { frames := 46, cells := 0, slots := 0, locals := 1850 } (va_Pc [.ref (ad 2), .ref (ad (2 * i + 8)), .ref (ad (2 * a + 8)), .int (nI (n))] (PW D cI cB cR ad w sz)) (va_Qv (fun w1 : St => eqB w w1 [i] ∧ NV w1 i (v ^ n)) (BW D cI cB cR ad) (AA ad sz)) 0 0 (AA ad sz) := by
  refine Met.ofW (cc := b_Be_putPower) (maxL := 5) (ret := none) (by decide) rfl ?_
  intro p e s m args below meth c s₁ B hml hv
  obtain ⟨rfl, hsz, hP, hD0, hKW⟩ := hv
  have hx := B.exec
  have hb := B.bytes
  have hr := B.returns
  have hts := atoms_spec (ws := q_Be_putPower :: wA) B.pre
  have hown : s.vm.findClass R_Be = some m.cls := findClass_of_methodNamed B.named
  have hlocks := B.notSynchronized
  subst hsz
  have hD := NC_AA (sz := s.heap.size) hD0
  have hS : va_S (AA ad s.heap.size) s.heap s.heap [] := va_S.rf
  have hl := lv_entry ([.ref (ad 2), .ref (ad (2 * i + 8)), .ref (ad (2 * a + 8)), .int (nI (n))]) (n := 5) (Nat.le_of_ble_eq_true rfl)
  rw [lg_entry_eq]
  generalize (lg_sl ([.ref (ad 2), .ref (ad (2 * i + 8)), .ref (ad (2 * a + 8)), .int (nI (n))]) ++ List.replicate (5 - (lg_sl ([.ref (ad 2), .ref (ad (2 * i + 8)), .ref (ad (2 * a + 8)), .int (nI (n))])).length) Slot.unset).toArray = ls at hl ⊢
  have hl : lv_has ls 5 [(0, .ref (ad 2)), (1, .ref (ad (2 * i + 8))), (2, .ref (ad (2 * a + 8))), (3, .int (nI (n)))] := hl
  refine lv_iload_n hx hb d_Be_putPower_0 rfl (lv_at hl 3 rfl) ?_
  refine lv_if_ne (tgt := 10) hx hb d_Be_putPower_1 (by decide) (fun c1 => ?_) (fun c1 => ?_)
  · skip
    have c1 : ¬ (n = 0) := fun h => c1 (by have := (nI_eq (by omega) (by omega)).mpr h; rwa [nI_0] at this)
    refine lv_aload_n hx hb d_Be_putPower_10 rfl (lv_at hl 1 rfl) ?_
    refine lv_aload_n hx hb d_Be_putPower_11 rfl (lv_at hl 2 rfl) ?_
    refine wV_v (As := [.ref (ad (2 * a + 8))]) (rest := []) (n := 1) ⟨hx, hb, hml, hown, hts⟩ (c_Na_putSame l w _ (i := i) (a := a) (v := v) hi ha hv) (cwV0 1 hts lm_Be_42 im_Na_putSame se_Na_putSame in_Na kq_Na_putSame rfl rfl rfl (by decide +kernel) ⟨Nat.le_of_ble_eq_true rfl, Nat.le_of_ble_eq_true rfl⟩) (recvN hKW.1 hP (i := i) (by omega)) hKW hP hD hS rfl hl.1 rfl (Nat.le_of_ble_eq_true rfl) d_Be_putPower_12 ⟨Nat.zero_le _, Nat.zero_le _⟩ (fun w1 H locs hp hP hD hS => ?_)
    obtain ⟨hE1, hV1⟩ := hp
    refine lv_iload_n hx hb d_Be_putPower_15 rfl (lv_at hl 3 rfl) ?_
    refine wSN_i (As := [.int (nI (n))]) (rest := []) (n := 1) ⟨hx, hb, hml, hown, hts⟩ (c_Lw_bitsOf l w1 _ (nI n)) (cwN0 1 hts hKW.2.1 nest_Be st_Lw_bitsOf in_Lw kq_Lw_bitsOf rfl rfl rfl (by decide +kernel) ⟨Nat.le_of_ble_eq_true rfl, Nat.le_of_ble_eq_true rfl⟩) hKW hP hD hS rfl hl.1 rfl (Nat.le_of_ble_eq_true rfl) d_Be_putPower_16 ⟨Nat.zero_le _, Nat.zero_le _⟩ (fun r w2 H locs hp hP hD hS => ?_)
    obtain ⟨er, ew⟩ := hp
    rw [ew] at hP hD
    subst er
    rw [wN_nI, Nat.mod_eq_of_lt (show n < 4294967296 by omega)]
    have hnb := nb_pos (v := n) (by omega)
    have hnb7 : nb n ≤ 7 := nb_le_iff.mpr (by omega)
    refine lv_iconst (v := nI (2)) hx hb d_Be_putPower_19 (by decide) ?_
    refine nw_isub (v := dn (nb n - 1)) hx hb d_Be_putPower_20 (dn_2 hnb) ?_
    refine lv_istore (lv' := [(4, .int (dn (nb n - 1))), (0, .ref (ad 2)), (1, .ref (ad (2 * i + 8))), (2, .ref (ad (2 * a + 8))), (3, .int (nI (n)))]) hx hb d_Be_putPower_21 hl (by decide) rfl (fun ls hl => ?_)
    have loop : ∀ (k : Nat), k < 7 → ∀ (w2 : St) (H : Heap) (locs : List Loc) (ls : Array Slot), eqB w w2 [i] → NV w2 i (v ^ (n / 2 ^ k)) → va_P D clA (NC cI cB cR ad (w2)) H → va_D (AA ad s.heap.size) (NC cI cB cR ad (w2)) → va_S (AA ad s.heap.size) s.heap H locs → lv_has ls 5 [(4, .int (dn k)), (0, .ref (ad 2)), (1, .ref (ad (2 * i + 8))), (2, .ref (ad (2 * a + 8))), (3, .int (nI (n)))] → W p l e (headSpec (q_Be_putPower :: wA) { frames := 46, cells := 0, slots := 0, locals := 1850 }).room s m ([.ref (ad 2), .ref (ad (2 * i + 8)), .ref (ad (2 * a + 8)), .int (nI (n))] : List Value).toArray below meth c H locs 0 0 (MQ below (va_Qv (fun w1 : St => eqB w w1 [i] ∧ NV w1 i (v ^ n)) (BW D cI cB cR ad) (AA ad s.heap.size)) ([.ref (ad 2), .ref (ad (2 * i + 8)), .ref (ad (2 * a + 8)), .int (nI (n))] : List Value).toArray s 0 0 (AA ad s.heap.size)) (F0 m 23 ls []) := by
      intro k
      induction k with
      | zero =>
        intro _ w2 H locs ls hE hV hP hD hS hl
        refine lv_iload hx hb d_Be_putPower_23 (lv_at hl 0 rfl) ?_
        refine lv_if_lt (tgt := 58) hx hb d_Be_putPower_25 (by decide) (fun c25 => ?_) (fun c25 => ?_)
        · skip
          rw [Nat.pow_zero, Nat.div_one] at hV
          exact W.vret hx hb hr (fun t ht hW => ⟨⟨w2, rfl, ⟨hE, hV⟩, BW_of ht hP⟩, hS.F ht⟩) hS.2.2 d_Be_putPower_58
        · exact absurd dn_0 c25
      | succ k ih =>
        intro hk w2 H locs ls hE hV hP hD hS hl
        refine lv_iload hx hb d_Be_putPower_23 (lv_at hl 0 rfl) ?_
        refine lv_if_lt (tgt := 58) hx hb d_Be_putPower_25 (by decide) (fun c25 => ?_) (fun c25 => ?_)
        · exact absurd c25 (nI_pos (by omega))
        · skip
          refine lv_aload_n hx hb d_Be_putPower_28 rfl (lv_at hl 1 rfl) ?_
          refine lv_aload_n hx hb d_Be_putPower_29 rfl (lv_at hl 2 rfl) ?_
          refine lv_aload_n hx hb d_Be_putPower_30 rfl (lv_at hl 2 rfl) ?_
          refine lv_aload_n hx hb d_Be_putPower_31 rfl (lv_at hl 2 rfl) ?_
          have hbit := pow_bit (v := v) (n := n) (k := k)
          have hle : n / 2 ^ k ≤ n := Nat.div_le_self _ _
          have hfk := pow_fit hle hfit (by rw [← Nat.pow_zero 2]; exact Nat.pow_lt_pow_right (by decide) (by decide))
          have hsq : v ^ (n / 2 ^ (k + 1)) * v ^ (n / 2 ^ (k + 1)) < 2 ^ 200640 := by rw [← Nat.pow_add]; exact pow_fit (by rw [Nat.pow_succ, ← Nat.div_div_eq_div_mul]; omega) hfit (by rw [← Nat.pow_zero 2]; exact Nat.pow_lt_pow_right (by decide) (by decide))
          refine wV_v (As := [.ref (ad (2 * i + 8)), .ref (ad (2 * i + 8)), .ref (ad (2 * i + 8))]) (rest := []) (n := 3) ⟨hx, hb, hml, hown, hts⟩ (c_Be_putProduct l w2 _ (i := i) (a := i) (b := i) hi hi hi hV hV (fitM hV hV hsq)) (cwV0 3 hts lm_Be_50 im_Be_putProduct se_Be_putProduct in_Be kq_Be_putProduct rfl rfl rfl (by decide +kernel) ⟨Nat.le_of_ble_eq_true rfl, Nat.le_of_ble_eq_true rfl⟩) (recvB hKW.1 hP) hKW hP hD hS rfl hl.1 rfl (Nat.le_of_ble_eq_true rfl) d_Be_putPower_32 ⟨Nat.zero_le _, Nat.zero_le _⟩ (fun w3 H locs hp hP hD hS => ?_)
          obtain ⟨hE3, hV3⟩ := hp
          refine lv_iload_n hx hb d_Be_putPower_35 rfl (lv_at hl 4 rfl) ?_
          refine lv_iload hx hb d_Be_putPower_36 (lv_at hl 0 rfl) ?_
          refine nw_ishr (v := nI n >>> (nI k &&& 31)) hx hb d_Be_putPower_38 rfl ?_
          refine lv_iconst (v := nI (1)) hx hb d_Be_putPower_39 (by decide) ?_
          refine nw_iand (v := nI (n / 2 ^ k % 2)) hx hb d_Be_putPower_40 (ishr_bit n hn k (by omega)) ?_
          refine lv_iconst (v := nI (1)) hx hb d_Be_putPower_41 (by decide) ?_
          refine lv_icmp_ne (tgt := 52) hx hb d_Be_putPower_42 (by decide) (fun c42 => ?_) (fun c42 => ?_)
          · skip
            have c42 : ¬ (n / 2 ^ k % 2 = 1) := fun h => c42 ((nI_eq (by omega) (by omega)).mpr h)
            rw [show n / 2 ^ k % 2 = 0 by omega, Nat.pow_zero, Nat.mul_one] at hbit
            refine lv_iinc (v := dn k) (lv' := [(4, .int (dn k)), (0, .ref (ad 2)), (1, .ref (ad (2 * i + 8))), (2, .ref (ad (2 * a + 8))), (3, .int (nI (n)))]) hx hb d_Be_putPower_52 hl (k := 0) rfl (dn_dec k) (by decide) rfl (fun ls hl => ?_)
            refine lv_goto (tgt := 23) hx hb d_Be_putPower_55 (by decide) ?_
            exact ih (by omega) w3 H locs ls (hE.trans hE3) (hbit ▸ hV3) hP hD hS (lv_sub hl [0, 1, 2, 3, 4] rfl)
          · skip
            have c42 : n / 2 ^ k % 2 = 1 := (nI_eq (by omega) (by omega)).mp c42
            refine lv_aload_n hx hb d_Be_putPower_45 rfl (lv_at hl 1 rfl) ?_
            refine lv_aload_n hx hb d_Be_putPower_46 rfl (lv_at hl 2 rfl) ?_
            refine lv_aload_n hx hb d_Be_putPower_47 rfl (lv_at hl 2 rfl) ?_
            refine lv_aload_n hx hb d_Be_putPower_48 rfl (lv_at hl 3 rfl) ?_
            rw [c42, Nat.pow_one] at hbit
            have hVa : NV w3 a v := (hE.trans hE3).nv (fun z => hia (List.mem_singleton.mp z)) hv
            refine wV_v (As := [.ref (ad (2 * i + 8)), .ref (ad (2 * i + 8)), .ref (ad (2 * a + 8))]) (rest := []) (n := 3) ⟨hx, hb, hml, hown, hts⟩ (c_Be_putProduct l w3 _ (i := i) (a := i) (b := a) hi hi ha hV3 hVa (fitM hV3 hVa (by rw [hbit]; exact hfk))) (cwV0 3 hts lm_Be_50 im_Be_putProduct se_Be_putProduct in_Be kq_Be_putProduct rfl rfl rfl (by decide +kernel) ⟨Nat.le_of_ble_eq_true rfl, Nat.le_of_ble_eq_true rfl⟩) (recvB hKW.1 hP) hKW hP hD hS rfl hl.1 rfl (Nat.le_of_ble_eq_true rfl) d_Be_putPower_49 ⟨Nat.zero_le _, Nat.zero_le _⟩ (fun w4 H locs hp hP hD hS => ?_)
            obtain ⟨hE4, hV4⟩ := hp
            refine lv_iinc (v := dn k) (lv' := [(4, .int (dn k)), (0, .ref (ad 2)), (1, .ref (ad (2 * i + 8))), (2, .ref (ad (2 * a + 8))), (3, .int (nI (n)))]) hx hb d_Be_putPower_52 hl (k := 0) rfl (dn_dec k) (by decide) rfl (fun ls hl => ?_)
            refine lv_goto (tgt := 23) hx hb d_Be_putPower_55 (by decide) ?_
            exact ih (by omega) w4 H locs ls ((hE.trans hE3).trans hE4) (hbit ▸ hV4) hP hD hS (lv_sub hl [0, 1, 2, 3, 4] rfl)
    exact loop (nb n - 1) (by omega) w1 H locs ls (hE1.B (List.mem_singleton.mpr rfl)) (by rw [nb_top (by omega), Nat.pow_one]; exact hV1) hP hD hS hl
  · skip
    have c1 : n = 0 := (nI_eq (by omega) (by omega)).mp (by rw [nI_0]; exact c1)
    refine lv_aload_n hx hb d_Be_putPower_4 rfl (lv_at hl 1 rfl) ?_
    refine lv_lconst (v := lN (1)) hx hb d_Be_putPower_5 (by decide) ?_
    refine wV_v (As := [.long (lN (1))]) (rest := []) (n := 1) ⟨hx, hb, hml, hown, hts⟩ (c_Na_putLong l w _ (i := i) hi (lN 1)) (cwV0 1 hts lm_Be_38 im_Na_putLong se_Na_putLong in_Na kq_Na_putLong rfl rfl rfl (by decide +kernel) ⟨Nat.le_of_ble_eq_true rfl, Nat.le_of_ble_eq_true rfl⟩) (recvN hKW.1 hP (i := i) (by omega)) hKW hP hD hS rfl hl.1 rfl (Nat.le_of_ble_eq_true rfl) d_Be_putPower_6 ⟨Nat.zero_le _, Nat.zero_le _⟩ (fun w1 H locs hp hP hD hS => ?_)
    obtain ⟨hE1, hV1⟩ := hp
    exact W.vret hx hb hr (fun t ht hW => ⟨⟨w1, rfl, ⟨hE1.B (List.mem_singleton.mpr rfl), by rw [c1, Nat.pow_zero]; exact hV1⟩, BW_of ht hP⟩, hS.F ht⟩) hS.2.2 d_Be_putPower_9

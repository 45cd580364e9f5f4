/-! THE BENCH: putQuotient (rows laid by wip/whole/gen/c_be11.py) -/
set_option maxHeartbeats 4000000 in
set_option maxRecDepth 100000 in
/-- putQuotient(quotient, rest, a, b) -/
theorem c_Be_putQuotient (l : Launch) {D : va_G} {cI cB cR : ClassId} {ad : Nat → Nat} (w : St) (sz : Nat) {x y a b v u : Nat} (hx14 : x < 14) (hy14 : y < 14) (ha : a < 14) (hb14 : b < 14) (hv : NV w a v) (hu : NV w b u) (hu0 : u ≠ 0) (hfit : sL w a ≤ 6270) : Met l y_Be_putQuotient (q_Be_putQuotient :: wA) { frames := 95, cells := 0, slots := 0, locals := 3600 } (va_Pc [.ref (ad 2), .ref (ad (2 * x + 8)), .ref (ad (2 * y + 8)), .ref (ad (2 * a + 8)), .ref (ad (2 * b + 8))] (PW D cI cB cR ad w sz)) (va_Qi (fun (r : Int32) (w1 : St) => r = nI (nb (v / u)) ∧ eqB w w1 [x, y] ∧ (x ≠ y → NV w1 x (v / u)) ∧ NV w1 y (v % u)) (BW D cI cB cR ad) (AA ad sz)) 0 0 (AA ad sz) := by
  refine Met.ofW (cc := b_Be_putQuotient) (maxL := 13) (ret := (some (.int))) (by decide) rfl ?_
  intro p e s m args below meth c s₁ B hml hv
  obtain ⟨rfl, hsz, hP, hD0, hKW⟩ := hv
  have hx := B.exec
  have hb := B.bytes
  have hr := B.returns
  have hts := atoms_spec (ws := q_Be_putQuotient :: wA) B.pre
  have hown : s.vm.findClass R_Be = some m.cls := findClass_of_methodNamed B.named
  have hlocks := B.notSynchronized
  subst hsz
  have hD := NC_AA (sz := s.heap.size) hD0
  have hS : va_S (AA ad s.heap.size) s.heap s.heap [] := va_S.rf
  have hl := lv_entry ([.ref (ad 2), .ref (ad (2 * x + 8)), .ref (ad (2 * y + 8)), .ref (ad (2 * a + 8)), .ref (ad (2 * b + 8))]) (n := 13) (Nat.le_of_ble_eq_true rfl)
  rw [lg_entry_eq]
  generalize (lg_sl ([.ref (ad 2), .ref (ad (2 * x + 8)), .ref (ad (2 * y + 8)), .ref (ad (2 * a + 8)), .ref (ad (2 * b + 8))]) ++ List.replicate (13 - (lg_sl ([.ref (ad 2), .ref (ad (2 * x + 8)), .ref (ad (2 * y + 8)), .ref (ad (2 * a + 8)), .ref (ad (2 * b + 8))])).length) Slot.unset).toArray = ls at hl ⊢
  have hl : lv_has ls 13 [(0, .ref (ad 2)), (1, .ref (ad (2 * x + 8))), (2, .ref (ad (2 * y + 8))), (3, .ref (ad (2 * a + 8))), (4, .ref (ad (2 * b + 8)))] := hl
  obtain ⟨an, han⟩ : ∃ an, an = sL w a := ⟨_, rfl⟩
  obtain ⟨dn9, hdn9⟩ : ∃ dn9, dn9 = sL w b := ⟨_, rfl⟩
  have hfa : an ≤ 6270 := by omega
  have hfb : dn9 ≤ 6272 := by have := hu.len; omega
  have hdn : 1 ≤ dn9 := by
    rcases Nat.eq_zero_or_pos dn9 with z | z
    · exact absurd (hu.zero.mp (by omega)) hu0
    · exact z
  have hnb := hu.nb (by omega)
  have hvl := hv.lt
  have hug := hu.ge (by omega)
  rw [← hdn9] at hnb hug
  rw [← han] at hvl
  have hnt : 1 ≤ nb (wN (sW w b (dn9 - 1))) := nb_pos (fun q => by
    rcases hu.2.1 with z | z
    · omega
    · rw [← hdn9] at z; exact z (wN_inj (q.trans wN_0.symm)))
  have hnl : nb (wN (sW w b (dn9 - 1))) ≤ 32 := nb_le_iff.mpr (wN_lt _)
  refine lv_aload hx hb d_Be_putQuotient_0 (lv_at hl 4 rfl) ?_
  refine nw_gL hx hb hts hown hKW.1 hP (i := b) (by omega) (n := dn9) hdn9.symm lf_Be_15 d_Be_putQuotient_2 ?_
  refine lv_istore (lv' := [(5, .int (nI (dn9))), (0, .ref (ad 2)), (1, .ref (ad (2 * x + 8))), (2, .ref (ad (2 * y + 8))), (3, .ref (ad (2 * a + 8))), (4, .ref (ad (2 * b + 8)))]) hx hb d_Be_putQuotient_5 hl (by decide) rfl (fun ls hl => ?_)
  refine lv_iconst (v := nI (0)) hx hb d_Be_putQuotient_7 (by decide) ?_
  refine lv_aload_n hx hb d_Be_putQuotient_8 rfl (lv_at hl 4 rfl) ?_
  refine nw_gL hx hb hts hown hKW.1 hP (i := a) (by omega) (n := an) han.symm lf_Be_15 d_Be_putQuotient_9 ?_
  refine lv_iconst (v := nI (1)) hx hb d_Be_putQuotient_12 (by decide) ?_
  refine nw_iadd (v := nI (an + 1)) hx hb d_Be_putQuotient_13 (nI_add _ _) ?_
  refine lv_iload hx hb d_Be_putQuotient_14 (lv_at hl 0 rfl) ?_
  refine nw_isub (v := nI (an + 1) - nI dn9) hx hb d_Be_putQuotient_16 rfl ?_
  refine nw_max hx hb (hml.trans hl.1.symm) hts hown lm_Be_54 (Nat.le_of_ble_eq_true rfl) (Nat.le_of_ble_eq_true rfl) (Nat.zero_le _) (Nat.zero_le _) (mx_sub (by omega) (by omega)) d_Be_putQuotient_17 ?_
  obtain ⟨qn, hqn⟩ : ∃ qn, qn = an + 1 - dn9 := ⟨_, rfl⟩
  rw [← hqn]
  refine lv_istore (lv' := [(6, .int (nI (qn))), (5, .int (nI (dn9))), (0, .ref (ad 2)), (1, .ref (ad (2 * x + 8))), (2, .ref (ad (2 * y + 8))), (3, .ref (ad (2 * a + 8))), (4, .ref (ad (2 * b + 8)))]) hx hb d_Be_putQuotient_20 hl (by decide) rfl (fun ls hl => ?_)
  refine lv_aload_n hx hb d_Be_putQuotient_22 rfl (lv_at hl 5 rfl) ?_
  refine nw_gL hx hb hts hown hKW.1 hP (i := a) (by omega) (n := an) han.symm lf_Be_15 d_Be_putQuotient_23 ?_
  refine lv_iconst (v := nI (1)) hx hb d_Be_putQuotient_26 (by decide) ?_
  refine nw_iadd (v := nI (an + 1)) hx hb d_Be_putQuotient_27 (nI_add _ _) ?_
  refine lv_istore (lv' := [(7, .int (nI (an + 1))), (6, .int (nI (qn))), (5, .int (nI (dn9))), (0, .ref (ad 2)), (1, .ref (ad (2 * x + 8))), (2, .ref (ad (2 * y + 8))), (3, .ref (ad (2 * a + 8))), (4, .ref (ad (2 * b + 8)))]) hx hb d_Be_putQuotient_28 hl (by decide) rfl (fun ls hl => ?_)
  refine lv_iload hx hb d_Be_putQuotient_30 (lv_at hl 0 rfl) ?_
  refine lv_iload hx hb d_Be_putQuotient_32 (lv_at hl 2 rfl) ?_
  refine nw_iadd (v := nI (an + 1 + dn9)) hx hb d_Be_putQuotient_34 (nI_add _ _) ?_
  refine lv_iconst (v := nI (1)) hx hb d_Be_putQuotient_35 (by decide) ?_
  refine nw_iadd (v := nI (an + 1 + dn9 + 1)) hx hb d_Be_putQuotient_36 (nI_add _ _) ?_
  refine lv_istore (lv' := [(8, .int (nI (an + 1 + dn9 + 1))), (7, .int (nI (an + 1))), (6, .int (nI (qn))), (5, .int (nI (dn9))), (0, .ref (ad 2)), (1, .ref (ad (2 * x + 8))), (2, .ref (ad (2 * y + 8))), (3, .ref (ad (2 * a + 8))), (4, .ref (ad (2 * b + 8)))]) hx hb d_Be_putQuotient_37 hl (by decide) rfl (fun ls hl => ?_)
  refine lv_bipush (v := nI (32)) hx hb d_Be_putQuotient_39 (by decide) ?_
  refine lv_iload hx hb d_Be_putQuotient_41 (lv_at hl 3 rfl) ?_
  refine nw_imul (v := nI (32 * dn9)) hx hb d_Be_putQuotient_43 (pk_mul _ _) ?_
  refine lv_aload hx hb d_Be_putQuotient_44 (lv_at hl 8 rfl) ?_
  refine wV_i (As := []) (rest := [.int (nI (32 * dn9))]) (n := 0) ⟨hx, hb, hml, hown, hts⟩ (c_Na_countBits l w _ (i := b) (v := u) hb14 hu) (cwV0 0 hts lm_Be_60 im_Na_countBits se_Na_countBits in_Na kq_Na_countBits rfl rfl rfl (by decide +kernel) ⟨Nat.le_of_ble_eq_true rfl, Nat.le_of_ble_eq_true rfl⟩) (recvN hKW.1 hP (i := b) (by omega)) hKW hP hD hS rfl hl.1 rfl (Nat.le_of_ble_eq_true rfl) d_Be_putQuotient_46 ⟨Nat.zero_le _, Nat.zero_le _⟩ (fun r w1 H locs hp hP hD hS => ?_)
  obtain ⟨er, ew⟩ := hp
  rw [ew] at hP hD
  subst er
  refine nw_isub (v := nI (32 * dn9 - (nb u))) hx hb d_Be_putQuotient_49 (pk_sub (by omega)) ?_
  obtain ⟨up, hup⟩ : ∃ up, up = 32 * dn9 - nb u := ⟨_, rfl⟩
  rw [← hup]
  have hup32 : up < 32 := by omega
  refine lv_istore (lv' := [(9, .int (nI (up))), (8, .int (nI (an + 1 + dn9 + 1))), (7, .int (nI (an + 1))), (6, .int (nI (qn))), (5, .int (nI (dn9))), (0, .ref (ad 2)), (1, .ref (ad (2 * x + 8))), (2, .ref (ad (2 * y + 8))), (3, .ref (ad (2 * a + 8))), (4, .ref (ad (2 * b + 8)))]) hx hb d_Be_putQuotient_50 hl (by decide) rfl (fun ls hl => ?_)
  refine lv_aload_n hx hb d_Be_putQuotient_52 rfl (lv_at hl 5 rfl) ?_
  refine lv_iconst (v := nI (0)) hx hb d_Be_putQuotient_53 (by decide) ?_
  refine lv_aload_n hx hb d_Be_putQuotient_54 rfl (lv_at hl 8 rfl) ?_
  refine lv_iload hx hb d_Be_putQuotient_55 (lv_at hl 0 rfl) ?_
  refine wV_v (As := [.int (nI (0)), .ref (ad (2 * a + 8)), .int (nI (up))]) (rest := []) (n := 3) ⟨hx, hb, hml, hown, hts⟩ (c_Be_layMoved l w _ (p0 := 0) (a := a) (v := v) (up := up) ha hv hup32 (by omega)) (cwV0 3 hts lm_Be_64 im_Be_layMoved se_Be_layMoved in_Be kq_Be_layMoved rfl rfl rfl (by decide +kernel) ⟨Nat.le_of_ble_eq_true rfl, Nat.le_of_ble_eq_true rfl⟩) (recvB hKW.1 hP) hKW hP hD hS rfl hl.1 rfl (Nat.le_of_ble_eq_true rfl) d_Be_putQuotient_57 ⟨Nat.zero_le _, Nat.zero_le _⟩ (fun w1 H locs hp hP hD hS => ?_)
  obtain ⟨f1, ew, hs1, hv1⟩ := hp
  rw [ew] at hP hD
  rw [← han] at hs1 hv1
  refine lv_aload_n hx hb d_Be_putQuotient_60 rfl (lv_at hl 5 rfl) ?_
  refine lv_iload hx hb d_Be_putQuotient_61 (lv_at hl 2 rfl) ?_
  refine lv_aload hx hb d_Be_putQuotient_63 (lv_at hl 9 rfl) ?_
  refine lv_iload hx hb d_Be_putQuotient_65 (lv_at hl 0 rfl) ?_
  refine wV_v (As := [.int (nI (an + 1)), .ref (ad (2 * b + 8)), .int (nI (up))]) (rest := []) (n := 3) ⟨hx, hb, hml, hown, hts⟩ (c_Be_layMoved l (pR w f1) _ (p0 := an + 1) (a := b) (v := u) (up := up) hb14 hu hup32 (by show an + 1 + sL w b + 1 ≤ 28672; omega)) (cwV0 3 hts lm_Be_64 im_Be_layMoved se_Be_layMoved in_Be kq_Be_layMoved rfl rfl rfl (by decide +kernel) ⟨Nat.le_of_ble_eq_true rfl, Nat.le_of_ble_eq_true rfl⟩) (recvB hKW.1 hP) hKW hP hD hS rfl hl.1 rfl (Nat.le_of_ble_eq_true rfl) d_Be_putQuotient_67 ⟨Nat.zero_le _, Nat.zero_le _⟩ (fun w1 H locs hp hP hD hS => ?_)
  obtain ⟨f2, ew, hs2, hv2⟩ := hp
  rw [ew] at hP hD
  have hs2 : so f2 f1 (an + 1) (sL w b + 1) := hs2
  have hv2 : vN f2 (an + 1) (sL w b + 1) = u * 2 ^ up := hv2
  rw [← hdn9] at hs2 hv2
  obtain ⟨hD1, hD2⟩ := up_lo hu0 (show nb u ≤ 32 * dn9 by omega) hup
  have hD3 : vN f2 (an + 1) dn9 = u * 2 ^ up := vN_low (by omega) hv2 (by rw [pwB]; exact hD2)
  have hN2 : vN f2 0 (an + 1) = v * 2 ^ up := (hs2.vN (by omega)).trans hv1
  have htop : 2147483648 ≤ wN (f2 (an + 1 + dn9 - 1)) := top_bit hdn (by rw [hD3]; exact hD1)
  obtain ⟨D9, hD9⟩ : ∃ D9, D9 = u * 2 ^ up := ⟨_, rfl⟩
  obtain ⟨N9, hN9⟩ : ∃ N9, N9 = v * 2 ^ up := ⟨_, rfl⟩
  rw [← hD9] at hD3 hD1 hD2
  rw [← hN9] at hN2
  have hDp : 0 < D9 := Nat.lt_of_lt_of_le (Nat.pow_pos (by decide)) hD1
  refine lv_iload hx hb d_Be_putQuotient_70 (lv_at hl 3 rfl) ?_
  refine lv_istore (lv' := [(10, .int (nI (qn))), (9, .int (nI (up))), (8, .int (nI (an + 1 + dn9 + 1))), (7, .int (nI (an + 1))), (6, .int (nI (qn))), (5, .int (nI (dn9))), (0, .ref (ad 2)), (1, .ref (ad (2 * x + 8))), (2, .ref (ad (2 * y + 8))), (3, .ref (ad (2 * a + 8))), (4, .ref (ad (2 * b + 8)))]) hx hb d_Be_putQuotient_72 hl (by decide) rfl (fun ls hl => ?_)
  have fin : ∀ (f : Nat → Int32) (H : Heap) (locs : List Loc) (ls : Array Slot), vN f (an + 1 + dn9 + 1) qn = v / u → vN f 0 (min dn9 (an + 1)) = v % u * 2 ^ up → va_P D clA (NC cI cB cR ad (pR w f)) H → va_D (AA ad s.heap.size) (NC cI cB cR ad (pR w f)) → va_S (AA ad s.heap.size) s.heap H locs → lv_has ls 13 [(10, .int (nI (0))), (9, .int (nI (up))), (8, .int (nI (an + 1 + dn9 + 1))), (7, .int (nI (an + 1))), (6, .int (nI (qn))), (5, .int (nI (dn9))), (0, .ref (ad 2)), (1, .ref (ad (2 * x + 8))), (2, .ref (ad (2 * y + 8))), (3, .ref (ad (2 * a + 8))), (4, .ref (ad (2 * b + 8)))] → W p l e (headSpec (q_Be_putQuotient :: wA) { frames := 95, cells := 0, slots := 0, locals := 3600 }).room s m ([.ref (ad 2), .ref (ad (2 * x + 8)), .ref (ad (2 * y + 8)), .ref (ad (2 * a + 8)), .ref (ad (2 * b + 8))] : List Value).toArray below meth c H locs 0 0 (MQ below (va_Qi (fun (r : Int32) (w1 : St) => r = nI (nb (v / u)) ∧ eqB w w1 [x, y] ∧ (x ≠ y → NV w1 x (v / u)) ∧ NV w1 y (v % u)) (BW D cI cB cR ad) (AA ad s.heap.size)) ([.ref (ad 2), .ref (ad (2 * x + 8)), .ref (ad (2 * y + 8)), .ref (ad (2 * a + 8)), .ref (ad (2 * b + 8))] : List Value).toArray s 0 0 (AA ad s.heap.size)) (F0 m 137 ls []) := by
    intro f H locs ls hq hr9 hP hD hS hl
    refine lv_aload_n hx hb d_Be_putQuotient_137 rfl (lv_at hl 6 rfl) ?_
    refine nw_gR hx hb hts hown hKW.1 hP lf_Be_11 d_Be_putQuotient_138 ?_
    refine lv_iload hx hb d_Be_putQuotient_141 (lv_at hl 2 rfl) ?_
    refine lv_aload_n hx hb d_Be_putQuotient_143 rfl (lv_at hl 7 rfl) ?_
    refine nw_gW hx hb hts hown hKW.1 hP (i := x) (by omega) lf_Be_21 d_Be_putQuotient_144 ?_
    refine lv_iconst (v := nI (0)) hx hb d_Be_putQuotient_147 (by decide) ?_
    refine lv_iload hx hb d_Be_putQuotient_148 (lv_at hl 4 rfl) ?_
    refine nw_cRW hx hb (hml.trans hl.1.symm) hts hown lm_Be_24 hKW.1 hP hD hS (i := x) hx14 (sp := an + 1 + dn9 + 1) (dp := 0) (n := qn) (by omega) (by omega) (Nat.le_of_ble_eq_true rfl) (by decide) d_Be_putQuotient_150 (fun H locs hP hD hS => ?_)
    obtain ⟨F1, hF1⟩ : ∃ F1, F1 = va_cpy f (sW w x) (an + 1 + dn9 + 1) 0 qn := ⟨_, rfl⟩
    have hP : va_P D clA (NC cI cB cR ad (pW (pR w f) x F1)) H := by rw [hF1]; exact hP
    have hD : va_D (AA ad s.heap.size) (NC cI cB cR ad (pW (pR w f) x F1)) := by rw [hF1]; exact hD
    have hvF : vN F1 0 qn = v / u := by rw [hF1, cpy_vN, hq]
    refine lv_aload_n hx hb d_Be_putQuotient_153 rfl (lv_at hl 7 rfl) ?_
    refine lv_iload hx hb d_Be_putQuotient_154 (lv_at hl 4 rfl) ?_
    refine wV_v (As := [.int (nI (qn))]) (rest := []) (n := 1) ⟨hx, hb, hml, hown, hts⟩ (c_Na_trim l (pW (pR w f) x F1) _ (i := x) (n := qn) hx14 (by omega)) (cwV0 1 hts lm_Be_34 im_Na_trim se_Na_trim in_Na kq_Na_trim rfl rfl rfl (by decide +kernel) ⟨Nat.le_of_ble_eq_true rfl, Nat.le_of_ble_eq_true rfl⟩) (recvN hKW.1 hP (i := x) (by omega)) hKW hP hD hS rfl hl.1 rfl (Nat.le_of_ble_eq_true rfl) d_Be_putQuotient_156 ⟨Nat.zero_le _, Nat.zero_le _⟩ (fun w1 H locs hp hP hD hS => ?_)
    rw [hp, show sW (pW (pR w f) x F1) x = F1 from sW_pW _ _ _] at hP hD
    obtain ⟨w2, hw2⟩ : ∃ w2, w2 = pL (pW (pR w f) x F1) x (tl F1 qn) := ⟨_, rfl⟩
    rw [← hw2] at hP hD
    have hVx : NV w2 x (v / u) := by rw [hw2, ← hvF]; exact NV_tr (by omega)
    have hEx : eqB w w2 [x] := by rw [hw2]; exact (eqB_pR w f [x]).trans ((eqN_tr _ x _ _).B (List.mem_singleton.mpr rfl))
    have hR2 : sR w2 = f := by rw [hw2]; rfl
    refine lv_aload_n hx hb d_Be_putQuotient_159 rfl (lv_at hl 7 rfl) ?_
    refine wV_i (As := []) (rest := []) (n := 0) ⟨hx, hb, hml, hown, hts⟩ (c_Na_countBits l w2 _ (i := x) (v := v / u) hx14 hVx) (cwV0 0 hts lm_Be_60 im_Na_countBits se_Na_countBits in_Na kq_Na_countBits rfl rfl rfl (by decide +kernel) ⟨Nat.le_of_ble_eq_true rfl, Nat.le_of_ble_eq_true rfl⟩) (recvN hKW.1 hP (i := x) (by omega)) hKW hP hD hS rfl hl.1 rfl (Nat.le_of_ble_eq_true rfl) d_Be_putQuotient_160 ⟨Nat.zero_le _, Nat.zero_le _⟩ (fun r w1 H locs hp hP hD hS => ?_)
    obtain ⟨er, ew⟩ := hp
    rw [ew] at hP hD
    subst er
    refine lv_istore (lv' := [(11, .int (nI (nb (v / u)))), (10, .int (nI (0))), (9, .int (nI (up))), (8, .int (nI (an + 1 + dn9 + 1))), (7, .int (nI (an + 1))), (6, .int (nI (qn))), (5, .int (nI (dn9))), (0, .ref (ad 2)), (1, .ref (ad (2 * x + 8))), (2, .ref (ad (2 * y + 8))), (3, .ref (ad (2 * a + 8))), (4, .ref (ad (2 * b + 8)))]) hx hb d_Be_putQuotient_163 hl (by decide) rfl (fun ls hl => ?_)
    refine lv_iload hx hb d_Be_putQuotient_165 (lv_at hl 6 rfl) ?_
    refine lv_iload hx hb d_Be_putQuotient_167 (lv_at hl 4 rfl) ?_
    refine nw_min hx hb (hml.trans hl.1.symm) hts hown lm_Be_72 (Nat.le_of_ble_eq_true rfl) (Nat.le_of_ble_eq_true rfl) (Nat.zero_le _) (Nat.zero_le _) (nI_min (by omega) (by omega)) d_Be_putQuotient_169 ?_
    obtain ⟨rl, hrl⟩ : ∃ rl, rl = min dn9 (an + 1) := ⟨_, rfl⟩
    rw [← hrl] at hr9 ⊢
    refine lv_istore (lv' := [(12, .int (nI (rl))), (11, .int (nI (nb (v / u)))), (10, .int (nI (0))), (9, .int (nI (up))), (8, .int (nI (an + 1 + dn9 + 1))), (7, .int (nI (an + 1))), (6, .int (nI (qn))), (5, .int (nI (dn9))), (0, .ref (ad 2)), (1, .ref (ad (2 * x + 8))), (2, .ref (ad (2 * y + 8))), (3, .ref (ad (2 * a + 8))), (4, .ref (ad (2 * b + 8)))]) hx hb d_Be_putQuotient_172 hl (by decide) rfl (fun ls hl => ?_)
    refine lv_aload_n hx hb d_Be_putQuotient_174 rfl (lv_at hl 8 rfl) ?_
    refine nw_gR hx hb hts hown hKW.1 hP lf_Be_11 d_Be_putQuotient_175 ?_
    refine lv_iconst (v := nI (0)) hx hb d_Be_putQuotient_178 (by decide) ?_
    refine lv_aload_n hx hb d_Be_putQuotient_179 rfl (lv_at hl 10 rfl) ?_
    refine nw_gW hx hb hts hown hKW.1 hP (i := y) (by omega) lf_Be_21 d_Be_putQuotient_180 ?_
    refine lv_iconst (v := nI (0)) hx hb d_Be_putQuotient_183 (by decide) ?_
    refine lv_iload hx hb d_Be_putQuotient_184 (lv_at hl 0 rfl) ?_
    refine nw_cRW hx hb (hml.trans hl.1.symm) hts hown lm_Be_24 hKW.1 hP hD hS (i := y) hy14 (sp := 0) (dp := 0) (n := rl) (by omega) (by omega) (Nat.le_of_ble_eq_true rfl) (by decide) d_Be_putQuotient_186 (fun H locs hP hD hS => ?_)
    obtain ⟨F2, hF2⟩ : ∃ F2, F2 = va_cpy (sR w2) (sW w2 y) 0 0 rl := ⟨_, rfl⟩
    rw [← hF2] at hP hD
    have hvG : vN F2 0 rl = v % u * 2 ^ up := by rw [hF2, cpy_vN, hR2, hr9]
    refine lv_aload_n hx hb d_Be_putQuotient_189 rfl (lv_at hl 10 rfl) ?_
    refine lv_iload hx hb d_Be_putQuotient_190 (lv_at hl 0 rfl) ?_
    refine wV_v (As := [.int (nI (rl))]) (rest := []) (n := 1) ⟨hx, hb, hml, hown, hts⟩ (c_Na_trim l (pW w2 y F2) _ (i := y) (n := rl) hy14 (by omega)) (cwV0 1 hts lm_Be_34 im_Na_trim se_Na_trim in_Na kq_Na_trim rfl rfl rfl (by decide +kernel) ⟨Nat.le_of_ble_eq_true rfl, Nat.le_of_ble_eq_true rfl⟩) (recvN hKW.1 hP (i := y) (by omega)) hKW hP hD hS rfl hl.1 rfl (Nat.le_of_ble_eq_true rfl) d_Be_putQuotient_192 ⟨Nat.zero_le _, Nat.zero_le _⟩ (fun w1 H locs hp hP hD hS => ?_)
    rw [hp, show sW (pW w2 y F2) y = F2 from sW_pW _ _ _] at hP hD
    obtain ⟨w3, hw3⟩ : ∃ w3, w3 = pL (pW w2 y F2) y (tl F2 rl) := ⟨_, rfl⟩
    rw [← hw3] at hP hD
    have hVy : NV w3 y (v % u * 2 ^ up) := by rw [hw3, ← hvG]; exact NV_tr (by omega)
    have hLy : sL w3 y ≤ rl := by rw [hw3, sL_pL]; exact tl_le _ _
    have hEy : eqN w2 w3 y := by rw [hw3]; exact eqN_tr _ y _ _
    refine lv_aload_n hx hb d_Be_putQuotient_195 rfl (lv_at hl 10 rfl) ?_
    refine lv_aload_n hx hb d_Be_putQuotient_196 rfl (lv_at hl 10 rfl) ?_
    refine lv_iload hx hb d_Be_putQuotient_197 (lv_at hl 3 rfl) ?_
    refine nw_ineg (v := -(nI (up))) hx hb d_Be_putQuotient_199 rfl ?_
    refine wV_v (As := [.ref (ad (2 * y + 8)), .int (-(nI (up)))]) (rest := []) (n := 2) ⟨hx, hb, hml, hown, hts⟩ (c_Na_putMovedD l w3 _ (i := y) (a := y) (n := up) hy14 hy14 hVy (by omega) (by omega)) (cwV0 2 hts lm_Be_75 im_Na_putMoved se_Na_putMoved in_Na kq_Na_putMoved rfl rfl rfl (by decide +kernel) ⟨Nat.le_of_ble_eq_true rfl, Nat.le_of_ble_eq_true rfl⟩) (recvN hKW.1 hP (i := y) (by omega)) hKW hP hD hS rfl hl.1 rfl (Nat.le_of_ble_eq_true rfl) d_Be_putQuotient_200 ⟨Nat.zero_le _, Nat.zero_le _⟩ (fun w4 H locs hp hP hD hS => ?_)
    obtain ⟨hE4, hV4⟩ := hp
    rw [Nat.mul_div_cancel _ (Nat.pow_pos (by decide))] at hV4
    refine lv_iload hx hb d_Be_putQuotient_203 (lv_at hl 1 rfl) ?_
    have hEE := (hEx.mono (q := [x, y]) (fun j h => by rw [List.mem_singleton.mp h]; exact List.mem_cons_self ..)).trans ((hEy.trans hE4).B (p := [x, y]) (List.mem_cons_of_mem _ (List.mem_singleton.mpr rfl)))
    exact W.iret (v := nI (nb (v / u))) hx hb hr (fun t ht hW => ⟨⟨_, w4, rfl, ⟨rfl, hEE, fun h => (hEy.trans hE4).nv h hVx, hV4⟩, BW_of ht hP⟩, hS.F ht⟩) hS.2.2 d_Be_putQuotient_205
  have loop : an + 1 = dn9 + qn → ∀ (n lf : Nat) (f : Nat → Int32) (H : Heap) (locs : List Loc) (ls : Array Slot), lf ≤ n → lf ≤ qn → N9 = vN f (an + 1 + dn9 + 1 + lf) (qn - lf) * (D9 * 4294967296 ^ lf) + vN f 0 (dn9 + lf) → vN f 0 (dn9 + lf) < D9 * 4294967296 ^ lf → so3 f f2 0 (an + 1) (an + 1 + dn9 + 1) qn (an + 1 + dn9 + 1 + qn) (28672 - (an + 1 + dn9 + 1 + qn)) → va_P D clA (NC cI cB cR ad (pR w f)) H → va_D (AA ad s.heap.size) (NC cI cB cR ad (pR w f)) → va_S (AA ad s.heap.size) s.heap H locs → lv_has ls 13 [(10, .int (nI (lf))), (9, .int (nI (up))), (8, .int (nI (an + 1 + dn9 + 1))), (7, .int (nI (an + 1))), (6, .int (nI (qn))), (5, .int (nI (dn9))), (0, .ref (ad 2)), (1, .ref (ad (2 * x + 8))), (2, .ref (ad (2 * y + 8))), (3, .ref (ad (2 * a + 8))), (4, .ref (ad (2 * b + 8)))] → W p l e (headSpec (q_Be_putQuotient :: wA) { frames := 95, cells := 0, slots := 0, locals := 3600 }).room s m ([.ref (ad 2), .ref (ad (2 * x + 8)), .ref (ad (2 * y + 8)), .ref (ad (2 * a + 8)), .ref (ad (2 * b + 8))] : List Value).toArray below meth c H locs 0 0 (MQ below (va_Qi (fun (r : Int32) (w1 : St) => r = nI (nb (v / u)) ∧ eqB w w1 [x, y] ∧ (x ≠ y → NV w1 x (v / u)) ∧ NV w1 y (v % u)) (BW D cI cB cR ad) (AA ad s.heap.size)) ([.ref (ad 2), .ref (ad (2 * x + 8)), .ref (ad (2 * y + 8)), .ref (ad (2 * a + 8)), .ref (ad (2 * b + 8))] : List Value).toArray s 0 0 (AA ad s.heap.size)) (F0 m 74 ls []) := by
    intro hqq n
    induction n with
    | zero =>
      intro lf f H locs ls hln hlq H1 H2 hso hP hD hS hl
      refine lv_iload hx hb d_Be_putQuotient_74 (lv_at hl 0 rfl) ?_
      refine lv_if_le (tgt := 137) hx hb d_Be_putQuotient_76 (by decide) (fun c76 => ?_) (fun c76 => ?_)
      · skip
        have hz : lf = 0 := by omega
        subst hz
        rw [Nat.pow_zero, Nat.mul_one, Nat.sub_zero, Nat.add_zero, Nat.add_zero] at H1
        rw [Nat.pow_zero, Nat.mul_one, Nat.add_zero] at H2
        obtain ⟨z1, z2⟩ := pq_fin hD9 hN9 (Nat.pos_of_ne_zero hu0) H1 H2
        exact fin f H locs ls z1 (by rw [Nat.min_eq_left (by omega)]; exact z2) hP hD hS (lv_sub hl [0, 1, 2, 3, 4, 5, 6, 7, 8, 9, 10] rfl)
      · exact absurd (by rw [show lf = 0 by omega]; decide) c76
    | succ n ih =>
      intro lf f H locs ls hln hlq H1 H2 hso hP hD hS hl
      refine lv_iload hx hb d_Be_putQuotient_74 (lv_at hl 0 rfl) ?_
      refine lv_if_le (tgt := 137) hx hb d_Be_putQuotient_76 (by decide) (fun c76 => ?_) (fun c76 => ?_)
      · skip
        have c76 : lf ≤ 0 := (nI_leI (by omega) (by omega)).mp (by rw [nI_0]; exact c76)
        have hz : lf = 0 := by omega
        subst hz
        rw [Nat.pow_zero, Nat.mul_one, Nat.sub_zero, Nat.add_zero, Nat.add_zero] at H1
        rw [Nat.pow_zero, Nat.mul_one, Nat.add_zero] at H2
        obtain ⟨z1, z2⟩ := pq_fin hD9 hN9 (Nat.pos_of_ne_zero hu0) H1 H2
        exact fin f H locs ls z1 (by rw [Nat.min_eq_left (by omega)]; exact z2) hP hD hS (lv_sub hl [0, 1, 2, 3, 4, 5, 6, 7, 8, 9, 10] rfl)
      · skip
        have c76 : ¬ (lf ≤ 0) := fun h => c76 (by have := (nI_leI (by omega) (by omega)).mpr h; rwa [nI_0] at this)
        have step : ∀ (k9 : Nat) (ls : Array Slot), 1 ≤ k9 → k9 ≤ lf → (dn9 < 80 ∨ k9 ≤ dn9) → lv_has ls 13 [(10, .int (nI (lf))), (9, .int (nI (up))), (8, .int (nI (an + 1 + dn9 + 1))), (7, .int (nI (an + 1))), (6, .int (nI (qn))), (5, .int (nI (dn9))), (0, .ref (ad 2)), (1, .ref (ad (2 * x + 8))), (2, .ref (ad (2 * y + 8))), (3, .ref (ad (2 * a + 8))), (4, .ref (ad (2 * b + 8)))] → W p l e (headSpec (q_Be_putQuotient :: wA) { frames := 95, cells := 0, slots := 0, locals := 3600 }).room s m ([.ref (ad 2), .ref (ad (2 * x + 8)), .ref (ad (2 * y + 8)), .ref (ad (2 * a + 8)), .ref (ad (2 * b + 8))] : List Value).toArray below meth c H locs 0 0 (MQ below (va_Qi (fun (r : Int32) (w1 : St) => r = nI (nb (v / u)) ∧ eqB w w1 [x, y] ∧ (x ≠ y → NV w1 x (v / u)) ∧ NV w1 y (v % u)) (BW D cI cB cR ad) (AA ad s.heap.size)) ([.ref (ad 2), .ref (ad (2 * x + 8)), .ref (ad (2 * y + 8)), .ref (ad (2 * a + 8)), .ref (ad (2 * b + 8))] : List Value).toArray s 0 0 (AA ad s.heap.size)) (F0 m 100 ls [.int (nI (k9))]) := by
          intro k9 ls hk1 hk2 hk3 hl
          refine lv_istore (lv' := [(11, .int (nI (k9))), (10, .int (nI (lf))), (9, .int (nI (up))), (8, .int (nI (an + 1 + dn9 + 1))), (7, .int (nI (an + 1))), (6, .int (nI (qn))), (5, .int (nI (dn9))), (0, .ref (ad 2)), (1, .ref (ad (2 * x + 8))), (2, .ref (ad (2 * y + 8))), (3, .ref (ad (2 * a + 8))), (4, .ref (ad (2 * b + 8)))]) hx hb d_Be_putQuotient_100 hl (by decide) rfl (fun ls hl => ?_)
          refine lv_iload hx hb d_Be_putQuotient_102 (lv_at hl 1 rfl) ?_
          refine lv_iload hx hb d_Be_putQuotient_104 (lv_at hl 0 rfl) ?_
          refine nw_isub (v := nI (lf - k9)) hx hb d_Be_putQuotient_106 (pk_sub (by omega)) ?_
          obtain ⟨l1, hl1⟩ : ∃ l1, l1 = lf - k9 := ⟨_, rfl⟩
          rw [← hl1]
          have hlf : lf = l1 + k9 := by omega
          refine lv_istore (lv' := [(10, .int (nI (l1))), (11, .int (nI (k9))), (9, .int (nI (up))), (8, .int (nI (an + 1 + dn9 + 1))), (7, .int (nI (an + 1))), (6, .int (nI (qn))), (5, .int (nI (dn9))), (0, .ref (ad 2)), (1, .ref (ad (2 * x + 8))), (2, .ref (ad (2 * y + 8))), (3, .ref (ad (2 * a + 8))), (4, .ref (ad (2 * b + 8)))]) hx hb d_Be_putQuotient_107 hl (by decide) rfl (fun ls hl => ?_)
          refine lv_aload_n hx hb d_Be_putQuotient_109 rfl (lv_at hl 7 rfl) ?_
          refine lv_iload hx hb d_Be_putQuotient_110 (lv_at hl 3 rfl) ?_
          refine lv_iload hx hb d_Be_putQuotient_112 (lv_at hl 0 rfl) ?_
          refine nw_iadd (v := nI (an + 1 + dn9 + 1 + l1)) hx hb d_Be_putQuotient_114 (nI_add _ _) ?_
          refine lv_iload hx hb d_Be_putQuotient_115 (lv_at hl 0 rfl) ?_
          refine lv_iload hx hb d_Be_putQuotient_117 (lv_at hl 4 rfl) ?_
          refine lv_iload hx hb d_Be_putQuotient_119 (lv_at hl 6 rfl) ?_
          refine lv_iload hx hb d_Be_putQuotient_121 (lv_at hl 1 rfl) ?_
          refine lv_iload hx hb d_Be_putQuotient_123 (lv_at hl 3 rfl) ?_
          refine lv_iload hx hb d_Be_putQuotient_125 (lv_at hl 5 rfl) ?_
          refine nw_iadd (v := nI (an + 1 + dn9 + 1 + qn)) hx hb d_Be_putQuotient_127 (nI_add _ _) ?_
          refine lv_bipush (v := nI (20)) hx hb d_Be_putQuotient_128 (by decide) ?_
          have hfd : vN f (an + 1) dn9 = D9 := (hso.vN (by omega) (by omega) (by omega)).trans hD3
          have hft : f (an + 1 + dn9 - 1) = f2 (an + 1 + dn9 - 1) := hso _ (by omega) (by omega) (by omega)
          refine wV_i (As := [.int (nI (an + 1 + dn9 + 1 + l1)), .int (nI (l1)), .int (nI (an + 1)), .int (nI (dn9)), .int (nI (k9)), .int (nI (an + 1 + dn9 + 1 + qn)), .int (nI (20))]) (rest := []) (n := 7) ⟨hx, hb, hml, hown, hts⟩ (divAll l 20 (by omega) (pR w f) _ (q0 := an + 1 + dn9 + 1 + l1) (n0 := l1) (d0 := an + 1) (dn9 := dn9) (k9 := k9) (fr := an + 1 + dn9 + 1 + qn) hdn hk3 (by omega) (by omega) (by omega) (by omega) (by omega) (by omega) (by show 2147483648 ≤ wN (f (an + 1 + dn9 - 1)); rw [hft]; exact htop) (by omega) (by omega)) (cwV0 7 hts lm_Be_68 im_Be_divideRun se_Be_divideRun in_Be kq_Be_divideRun rfl rfl rfl (by decide +kernel) ⟨Nat.le_of_ble_eq_true rfl, Nat.le_of_ble_eq_true rfl⟩) (recvB hKW.1 hP) hKW hP hD hS rfl hl.1 rfl (Nat.le_of_ble_eq_true rfl) d_Be_putQuotient_130 ⟨Nat.zero_le _, Nat.zero_le _⟩ (fun r w1 H locs hp hP hD hS => ?_)
          obtain ⟨f3, nx, ew, er, hnx, hs3, hQ3, hR3⟩ := hp
          rw [ew] at hP hD
          subst er
          have hs3 : so3 f3 f l1 (dn9 + k9) (an + 1 + dn9 + 1 + l1) k9 (an + 1 + dn9 + 1 + qn) (28672 - (an + 1 + dn9 + 1 + qn)) := hs3
          have hQ3 : nx * 4294967296 ^ k9 + vN f3 (an + 1 + dn9 + 1 + l1) k9 = vN f l1 (dn9 + k9) / vN f (an + 1) dn9 := hQ3
          have hR3 : vN f3 l1 dn9 = vN f l1 (dn9 + k9) % vN f (an + 1) dn9 := hR3
          rw [hfd] at hQ3 hR3
          rw [hlf] at H1 H2
          obtain ⟨H3, H4⟩ := pq_step hDp H1 H2 hQ3 hR3 (hs3.vN (by omega) (by omega) (by omega)) (hs3.vN (by omega) (by omega) (by omega))
          rw [show k9 + (qn - (l1 + k9)) = qn - l1 by omega] at H3
          refine lv_pop hx hb d_Be_putQuotient_133 rfl ?_
          refine lv_goto (tgt := 74) hx hb d_Be_putQuotient_134 (by decide) ?_
          exact ih l1 f3 H locs ls (by omega) (by omega) H3 H4 (fun j p1 p2 p3 => by rw [hs3 j (by omega) (by omega) (by omega)]; exact hso j p1 p2 p3) hP hD hS (lv_sub hl [0, 2, 3, 4, 5, 6, 7, 8, 9, 10, 11] rfl)
        refine lv_iload hx hb d_Be_putQuotient_79 (lv_at hl 5 rfl) ?_
        refine lv_bipush (v := nI (80)) hx hb d_Be_putQuotient_81 (by decide) ?_
        refine lv_icmp_ge (tgt := 91) hx hb d_Be_putQuotient_83 (by decide) (fun c83 => ?_) (fun c83 => ?_)
        · skip
          have c83 : 80 ≤ dn9 := (nI_leI (by omega) (by omega)).mp c83
          have hm := Nat.mod_lt (lf - 1) hdn
          have hm2 := Nat.mod_le (lf - 1) dn9
          refine lv_iload hx hb d_Be_putQuotient_91 (lv_at hl 0 rfl) ?_
          refine lv_iconst (v := nI (1)) hx hb d_Be_putQuotient_93 (by decide) ?_
          refine nw_isub (v := nI (lf - 1)) hx hb d_Be_putQuotient_94 (pk_sub (by omega)) ?_
          refine lv_iload hx hb d_Be_putQuotient_95 (lv_at hl 5 rfl) ?_
          refine nw_irem (v := nI ((lf - 1) % dn9)) hx hb d_Be_putQuotient_97 (nI_ne0 (by omega) (by omega)) (pk_rem (by omega) (by omega) (by omega)) ?_
          obtain ⟨m9, hm9⟩ : ∃ m9, m9 = (lf - 1) % dn9 := ⟨_, rfl⟩
          rw [← hm9] at hm hm2 ⊢
          refine lv_iconst (v := nI (1)) hx hb d_Be_putQuotient_98 (by decide) ?_
          refine nw_iadd (v := nI (m9 + 1)) hx hb d_Be_putQuotient_99 (nI_add _ _) ?_
          exact step (m9 + 1) ls (by omega) (by omega) (by omega) hl
        · skip
          have c83 : ¬ (80 ≤ dn9) := fun h => c83 ((nI_leI (by omega) (by omega)).mpr h)
          refine lv_iload hx hb d_Be_putQuotient_86 (lv_at hl 0 rfl) ?_
          refine lv_goto (tgt := 100) hx hb d_Be_putQuotient_88 (by decide) ?_
          exact step lf ls (by omega) (Nat.le_refl _) (by omega) hl
  rcases Nat.lt_or_ge (an + 1) dn9 with hc | hc
  · skip
    have hq0 : qn = 0 := by omega
    have hvu : v < u := Nat.lt_of_lt_of_le hvl (Nat.le_trans (pw_mono (by omega)) hug)
    refine lv_iload hx hb d_Be_putQuotient_74 (lv_at hl 0 rfl) ?_
    refine lv_if_le (tgt := 137) hx hb d_Be_putQuotient_76 (by decide) (fun c76 => ?_) (fun c76 => ?_)
    · skip
      rw [hq0] at hl
      exact fin f2 H locs ls (by rw [hq0, vN_0, Nat.div_eq_of_lt hvu]) (by rw [Nat.min_eq_right (by omega), hN2, Nat.mod_eq_of_lt hvu]; exact hN9) hP hD hS (by rw [← hq0] at hl ⊢; exact (lv_sub hl [0, 1, 2, 3, 4, 5, 6, 7, 8, 9, 10] rfl))
    · exact absurd (by rw [hq0]; decide) c76
  · exact loop (by omega) qn qn f2 H locs ls (Nat.le_refl _) (Nat.le_refl _) (by rw [Nat.sub_self, vN_0, Nat.zero_mul, Nat.zero_add, show dn9 + qn = an + 1 by omega, hN2]) (by rw [show dn9 + qn = an + 1 by omega, hN2, hN9]; exact pq_init hvl hug hdn (by omega) hD9) (fun j _ _ _ => rfl) hP hD hS (lv_sub hl [0, 1, 2, 3, 4, 5, 6, 7, 8, 9, 10] rfl)

/-! NUMBERS: the contracts of Natural, 8: putMoved, putOnes (rows laid by wip/whole/gen/c_na8.py) -/
set_option maxHeartbeats 4000000 in
set_option maxRecDepth 100000 in
/-- putMoved(a, n), n not below 0 -/
theorem c_Na_putMovedU (l : Launch) {D : va_G} {cI cB cR : ClassId} {ad : Nat → Nat} (w : St) (sz : Nat) {i a v n : Nat} (hi : i < 14) (ha : a < 14) (hv : NV w a v) (hn : n < 2 ^ 30) (hfit : sL w a + n / 32 + 1 ≤ 6272) : Met l y_Na_putMoved (q_Na_putMoved :: wA) { frames := 3, cells := 0, slots := 0, locals := 91 } (va_Pc [.ref (ad (2 * i + 8)), .ref (ad (2 * a + 8)), .int (nI (n))] (PW D cI cB cR ad w sz)) (va_Qv (fun w1 : St => eqN w w1 i ∧ NV w1 i (v * 2 ^ n)) (BW D cI cB cR ad) (AA ad sz)) 0 0 (AA ad sz) := by
  refine Met.ofW (cc := b_Na_putMoved) (maxL := 3) (ret := none) (by decide) rfl ?_
  intro p e s m args below meth c s₁ B hml hv
  obtain ⟨rfl, hsz, hP, hD0, hKW⟩ := hv
  have hx := B.exec
  have hb := B.bytes
  have hr := B.returns
  have hts := atoms_spec (ws := q_Na_putMoved :: wA) B.pre
  have hown : s.vm.findClass R_Na = some m.cls := findClass_of_methodNamed B.named
  have hlocks := B.notSynchronized
  subst hsz
  have hD := NC_AA (sz := s.heap.size) hD0
  have hS : va_S (AA ad s.heap.size) s.heap s.heap [] := va_S.rf
  have hl := lv_entry ([.ref (ad (2 * i + 8)), .ref (ad (2 * a + 8)), .int (nI (n))]) (n := 3) (Nat.le_of_ble_eq_true rfl)
  rw [lg_entry_eq]
  generalize (lg_sl ([.ref (ad (2 * i + 8)), .ref (ad (2 * a + 8)), .int (nI (n))]) ++ List.replicate (3 - (lg_sl ([.ref (ad (2 * i + 8)), .ref (ad (2 * a + 8)), .int (nI (n))])).length) Slot.unset).toArray = ls at hl ⊢
  have hl : lv_has ls 3 [(0, .ref (ad (2 * i + 8))), (1, .ref (ad (2 * a + 8))), (2, .int (nI (n)))] := hl
  refine lv_iload_n hx hb d_Na_putMoved_0 rfl (lv_at hl 2 rfl) ?_
  refine lv_if_lt (tgt := 20) hx hb d_Na_putMoved_1 (by decide) (fun c1 => ?_) (fun c1 => ?_)
  · exact absurd c1 (nI_pos (by omega))
  · skip
    refine lv_aload_n hx hb d_Na_putMoved_4 rfl (lv_at hl 0 rfl) ?_
    refine lv_aload_n hx hb d_Na_putMoved_5 rfl (lv_at hl 1 rfl) ?_
    refine lv_iload_n hx hb d_Na_putMoved_6 rfl (lv_at hl 2 rfl) ?_
    refine lv_bipush (v := nI (32)) hx hb d_Na_putMoved_7 (by decide) ?_
    refine nw_idiv (v := nI (n / 32)) hx hb d_Na_putMoved_9 (nI_ne0 (by omega) (by omega)) (pk_div (by omega) (by omega) (by omega)) ?_
    refine lv_iload_n hx hb d_Na_putMoved_10 rfl (lv_at hl 2 rfl) ?_
    refine lv_bipush (v := nI (32)) hx hb d_Na_putMoved_11 (by decide) ?_
    refine nw_irem (v := nI (n % 32)) hx hb d_Na_putMoved_13 (nI_ne0 (by omega) (by omega)) (pk_rem (by omega) (by omega) (by omega)) ?_
    refine wV_v (As := [.ref (ad (2 * a + 8)), .int (nI (n / 32)), .int (nI (n % 32))]) (rest := []) (n := 3) ⟨hx, hb, hml, hown, hts⟩ (c_Na_moveUp l w _ (i := i) (a := a) (v := v) (wh := n / 32) (pt := n % 32) hi ha hv (by omega) hfit) (cwV0 3 hts lm_Na_35 im_Na_moveUp se_Na_moveUp in_Na kq_Na_moveUp rfl rfl rfl (by decide +kernel) ⟨Nat.le_of_ble_eq_true rfl, Nat.le_of_ble_eq_true rfl⟩) (recvN hKW.1 hP (i := i) (by omega)) hKW hP hD hS rfl hl.1 rfl (Nat.le_of_ble_eq_true rfl) d_Na_putMoved_14 ⟨Nat.zero_le _, Nat.zero_le _⟩ (fun w1 H locs hp hP hD hS => ?_)
    rw [show 32 * (n / 32) + n % 32 = n by omega] at hp
    refine lv_goto (tgt := 35) hx hb d_Na_putMoved_17 (by decide) ?_
    exact W.vret hx hb hr (fun t ht hW => ⟨⟨w1, rfl, hp, BW_of ht hP⟩, hS.F ht⟩) hS.2.2 d_Na_putMoved_35
set_option maxHeartbeats 4000000 in
set_option maxRecDepth 100000 in
/-- putMoved(a, -n), n not below 0 -/
theorem c_Na_putMovedD (l : Launch) {D : va_G} {cI cB cR : ClassId} {ad : Nat → Nat} (w : St) (sz : Nat) {i a v n : Nat} (hi : i < 14) (ha : a < 14) (hv : NV w a v) (hn : n < 2 ^ 30) (hfit : sL w a + 1 ≤ 6272) : Met l y_Na_putMoved (q_Na_putMoved :: wA) { frames := 3, cells := 0, slots := 0, locals := 91 } (va_Pc [.ref (ad (2 * i + 8)), .ref (ad (2 * a + 8)), .int (-nI n)] (PW D cI cB cR ad w sz)) (va_Qv (fun w1 : St => eqN w w1 i ∧ NV w1 i (v / 2 ^ n)) (BW D cI cB cR ad) (AA ad sz)) 0 0 (AA ad sz) := by
  refine Met.ofW (cc := b_Na_putMoved) (maxL := 3) (ret := none) (by decide) rfl ?_
  intro p e s m args below meth c s₁ B hml hv
  obtain ⟨rfl, hsz, hP, hD0, hKW⟩ := hv
  have hx := B.exec
  have hb := B.bytes
  have hr := B.returns
  have hts := atoms_spec (ws := q_Na_putMoved :: wA) B.pre
  have hown : s.vm.findClass R_Na = some m.cls := findClass_of_methodNamed B.named
  have hlocks := B.notSynchronized
  subst hsz
  have hD := NC_AA (sz := s.heap.size) hD0
  have hS : va_S (AA ad s.heap.size) s.heap s.heap [] := va_S.rf
  have hl := lv_entry ([.ref (ad (2 * i + 8)), .ref (ad (2 * a + 8)), .int (-nI n)]) (n := 3) (Nat.le_of_ble_eq_true rfl)
  rw [lg_entry_eq]
  generalize (lg_sl ([.ref (ad (2 * i + 8)), .ref (ad (2 * a + 8)), .int (-nI n)]) ++ List.replicate (3 - (lg_sl ([.ref (ad (2 * i + 8)), .ref (ad (2 * a + 8)), .int (-nI n)])).length) Slot.unset).toArray = ls at hl ⊢
  have hl : lv_has ls 3 [(0, .ref (ad (2 * i + 8))), (1, .ref (ad (2 * a + 8))), (2, .int (-nI n))] := hl
  refine lv_iload_n hx hb d_Na_putMoved_0 rfl (lv_at hl 2 rfl) ?_
  refine lv_if_lt (tgt := 20) hx hb d_Na_putMoved_1 (by decide) (fun c1 => ?_) (fun c1 => ?_)
  · skip
    refine lv_aload_n hx hb d_Na_putMoved_20 rfl (lv_at hl 0 rfl) ?_
    refine lv_aload_n hx hb d_Na_putMoved_21 rfl (lv_at hl 1 rfl) ?_
    refine lv_iload_n hx hb d_Na_putMoved_22 rfl (lv_at hl 2 rfl) ?_
    refine nw_ineg (v := nI (n)) hx hb d_Na_putMoved_23 (neg_nI n) ?_
    refine lv_bipush (v := nI (32)) hx hb d_Na_putMoved_24 (by decide) ?_
    refine nw_idiv (v := nI (n / 32)) hx hb d_Na_putMoved_26 (nI_ne0 (by omega) (by omega)) (pk_div (by omega) (by omega) (by omega)) ?_
    refine lv_iload_n hx hb d_Na_putMoved_27 rfl (lv_at hl 2 rfl) ?_
    refine nw_ineg (v := nI (n)) hx hb d_Na_putMoved_28 (neg_nI n) ?_
    refine lv_bipush (v := nI (32)) hx hb d_Na_putMoved_29 (by decide) ?_
    refine nw_irem (v := nI (n % 32)) hx hb d_Na_putMoved_31 (nI_ne0 (by omega) (by omega)) (pk_rem (by omega) (by omega) (by omega)) ?_
    refine wV_v (As := [.ref (ad (2 * a + 8)), .int (nI (n / 32)), .int (nI (n % 32))]) (rest := []) (n := 3) ⟨hx, hb, hml, hown, hts⟩ (c_Na_moveDown l w _ (i := i) (a := a) (v := v) (wh := n / 32) (pt := n % 32) hi ha hv (by omega) (by omega)) (cwV0 3 hts lm_Na_39 im_Na_moveDown se_Na_moveDown in_Na kq_Na_moveDown rfl rfl rfl (by decide +kernel) ⟨Nat.le_of_ble_eq_true rfl, Nat.le_of_ble_eq_true rfl⟩) (recvN hKW.1 hP (i := i) (by omega)) hKW hP hD hS rfl hl.1 rfl (Nat.le_of_ble_eq_true rfl) d_Na_putMoved_32 ⟨Nat.zero_le _, Nat.zero_le _⟩ (fun w1 H locs hp hP hD hS => ?_)
    rw [show 32 * (n / 32) + n % 32 = n by omega] at hp
    exact W.vret hx hb hr (fun t ht hW => ⟨⟨w1, rfl, hp, BW_of ht hP⟩, hS.F ht⟩) hS.2.2 d_Na_putMoved_35
  · skip
    have hn0 : n = 0 := neg_ge (by omega) c1
    subst hn0
    have hl : lv_has ls 3 [(0, .ref (ad (2 * i + 8))), (1, .ref (ad (2 * a + 8))), (2, .int (nI (0)))] := hl
    refine lv_aload_n hx hb d_Na_putMoved_4 rfl (lv_at hl 0 rfl) ?_
    refine lv_aload_n hx hb d_Na_putMoved_5 rfl (lv_at hl 1 rfl) ?_
    refine lv_iload_n hx hb d_Na_putMoved_6 rfl (lv_at hl 2 rfl) ?_
    refine lv_bipush (v := nI (32)) hx hb d_Na_putMoved_7 (by decide) ?_
    refine nw_idiv (v := nI (0 / 32)) hx hb d_Na_putMoved_9 (nI_ne0 (by omega) (by omega)) (pk_div (by omega) (by omega) (by omega)) ?_
    refine lv_iload_n hx hb d_Na_putMoved_10 rfl (lv_at hl 2 rfl) ?_
    refine lv_bipush (v := nI (32)) hx hb d_Na_putMoved_11 (by decide) ?_
    refine nw_irem (v := nI (0 % 32)) hx hb d_Na_putMoved_13 (nI_ne0 (by omega) (by omega)) (pk_rem (by omega) (by omega) (by omega)) ?_
    refine wV_v (As := [.ref (ad (2 * a + 8)), .int (nI (0 / 32)), .int (nI (0 % 32))]) (rest := []) (n := 3) ⟨hx, hb, hml, hown, hts⟩ (c_Na_moveUp l w _ (i := i) (a := a) (v := v) (wh := 0 / 32) (pt := 0 % 32) hi ha hv (by omega) (by omega)) (cwV0 3 hts lm_Na_35 im_Na_moveUp se_Na_moveUp in_Na kq_Na_moveUp rfl rfl rfl (by decide +kernel) ⟨Nat.le_of_ble_eq_true rfl, Nat.le_of_ble_eq_true rfl⟩) (recvN hKW.1 hP (i := i) (by omega)) hKW hP hD hS rfl hl.1 rfl (Nat.le_of_ble_eq_true rfl) d_Na_putMoved_14 ⟨Nat.zero_le _, Nat.zero_le _⟩ (fun w1 H locs hp hP hD hS => ?_)
    rw [show 32 * (0 / 32) + 0 % 32 = 0 by omega, Nat.pow_zero, Nat.mul_one] at hp
    refine lv_goto (tgt := 35) hx hb d_Na_putMoved_17 (by decide) ?_
    exact W.vret hx hb hr (fun t ht hW => ⟨⟨w1, rfl, ⟨hp.1, by rw [Nat.pow_zero, Nat.div_one]; exact hp.2⟩, BW_of ht hP⟩, hS.F ht⟩) hS.2.2 d_Na_putMoved_35
set_option maxHeartbeats 4000000 in
set_option maxRecDepth 100000 in
/-- putOnes(bits) -/
theorem c_Na_putOnes (l : Launch) {D : va_G} {cI cB cR : ClassId} {ad : Nat → Nat} (w : St) (sz : Nat) {i n : Nat} (hi : i < 14) (hn : n / 32 + 1 ≤ 6272) : Met l y_Na_putOnes (q_Na_putOnes :: wA) { frames := 2, cells := 0, slots := 0, locals := 64 } (va_Pc [.ref (ad (2 * i + 8)), .int (nI (n))] (PW D cI cB cR ad w sz)) (va_Qv (fun w1 : St => eqN w w1 i ∧ NV w1 i (2 ^ n - 1)) (BW D cI cB cR ad) (AA ad sz)) 0 0 (AA ad sz) := by
  refine Met.ofW (cc := b_Na_putOnes) (maxL := 3) (ret := none) (by decide) rfl ?_
  intro p e s m args below meth c s₁ B hml hv
  obtain ⟨rfl, hsz, hP, hD0, hKW⟩ := hv
  have hx := B.exec
  have hb := B.bytes
  have hr := B.returns
  have hts := atoms_spec (ws := q_Na_putOnes :: wA) B.pre
  have hown : s.vm.findClass R_Na = some m.cls := findClass_of_methodNamed B.named
  have hlocks := B.notSynchronized
  subst hsz
  have hD := NC_AA (sz := s.heap.size) hD0
  have hS : va_S (AA ad s.heap.size) s.heap s.heap [] := va_S.rf
  have hl := lv_entry ([.ref (ad (2 * i + 8)), .int (nI (n))]) (n := 3) (Nat.le_of_ble_eq_true rfl)
  rw [lg_entry_eq]
  generalize (lg_sl ([.ref (ad (2 * i + 8)), .int (nI (n))]) ++ List.replicate (3 - (lg_sl ([.ref (ad (2 * i + 8)), .int (nI (n))])).length) Slot.unset).toArray = ls at hl ⊢
  have hl : lv_has ls 3 [(0, .ref (ad (2 * i + 8))), (1, .int (nI (n)))] := hl
  refine lv_iload_n hx hb d_Na_putOnes_0 rfl (lv_at hl 1 rfl) ?_
  refine lv_bipush (v := nI (32)) hx hb d_Na_putOnes_1 (by decide) ?_
  refine nw_idiv (v := nI (n / 32)) hx hb d_Na_putOnes_3 (nI_ne0 (by omega) (by omega)) (pk_div (by omega) (by omega) (by omega)) ?_
  refine lv_istore_n (lv' := [(2, .int (nI (n / 32))), (0, .ref (ad (2 * i + 8))), (1, .int (nI (n)))]) hx hb d_Na_putOnes_4 rfl hl (by decide) rfl (fun ls hl => ?_)
  refine lv_aload_n hx hb d_Na_putOnes_5 rfl (lv_at hl 1 rfl) ?_
  refine nw_gW hx hb hts hown hKW.1 hP (i := i) (by omega) lf_Na_9 d_Na_putOnes_6 ?_
  refine lv_iconst (v := nI (0)) hx hb d_Na_putOnes_9 (by decide) ?_
  refine lv_iload_n hx hb d_Na_putOnes_10 rfl (lv_at hl 0 rfl) ?_
  refine lv_iconst (v := -1) hx hb d_Na_putOnes_11 (by decide) ?_
  refine wS_v (As := [.ref (ad (2 * i + 9)), .int (nI (0)), .int (nI (n / 32)), .int (-1)]) (rest := []) (n := 4) ⟨hx, hb, hml, hown, hts⟩ (c_Ja_fillW l w _ (i := i) (a := 0) (b := n / 32) hi (by omega) (by omega) (-1)) (cwS0 4 hts lm_Na_42 st_Ja_fill in_Ja kq_Ja_fill rfl rfl rfl (by decide +kernel) ⟨Nat.le_of_ble_eq_true rfl, Nat.le_of_ble_eq_true rfl⟩) hKW hP hD hS rfl hl.1 rfl (Nat.le_of_ble_eq_true rfl) d_Na_putOnes_12 ⟨Nat.zero_le _, Nat.zero_le _⟩ (fun w1 H locs hp hP hD hS => ?_)
  rw [hp] at hP hD
  refine lv_aload_n hx hb d_Na_putOnes_15 rfl (lv_at hl 1 rfl) ?_
  refine nw_gW hx hb hts hown hKW.1 hP (i := i) (by omega) lf_Na_9 d_Na_putOnes_16 ?_
  refine lv_iload_n hx hb d_Na_putOnes_19 rfl (lv_at hl 0 rfl) ?_
  refine lv_iconst (v := nI (1)) hx hb d_Na_putOnes_20 (by decide) ?_
  refine lv_iload_n hx hb d_Na_putOnes_21 rfl (lv_at hl 2 rfl) ?_
  refine lv_bipush (v := nI (32)) hx hb d_Na_putOnes_22 (by decide) ?_
  refine nw_irem (v := nI (n % 32)) hx hb d_Na_putOnes_24 (nI_ne0 (by omega) (by omega)) (pk_rem (by omega) (by omega) (by omega)) ?_
  refine nw_ishl (v := sl (nI 1) (n % 32)) hx hb d_Na_putOnes_25 rfl ?_
  refine lv_iconst (v := nI (1)) hx hb d_Na_putOnes_26 (by decide) ?_
  refine nw_isub (v := (sl (nI 1) (n % 32)) - (nI (1))) hx hb d_Na_putOnes_27 rfl ?_
  refine nw_sW hx hb hKW.1 hP hD hS (i := i) (by omega) (j := n / 32) (by omega) d_Na_putOnes_28 (fun H locs hP hD hS => ?_)
  refine lv_aload_n hx hb d_Na_putOnes_29 rfl (lv_at hl 1 rfl) ?_
  refine lv_iload_n hx hb d_Na_putOnes_30 rfl (lv_at hl 0 rfl) ?_
  refine lv_iconst (v := nI (1)) hx hb d_Na_putOnes_31 (by decide) ?_
  refine nw_iadd (v := nI (n / 32 + 1)) hx hb d_Na_putOnes_32 (nI_add _ _) ?_
  refine wV_v (As := [.int (nI (n / 32 + 1))]) (rest := []) (n := 1) ⟨hx, hb, hml, hown, hts⟩ (c_Na_trim l (pW (pW w i (fl (sW w i) 0 (n / 32) (-1))) i (upd (sW (pW w i (fl (sW w i) 0 (n / 32) (-1))) i) (n / 32) ((sl (nI 1) (n % 32)) - (nI (1))))) _ (i := i) (n := n / 32 + 1) hi (by omega)) (cwV0 1 hts lm_Na_23 im_Na_trim se_Na_trim in_Na kq_Na_trim rfl rfl rfl (by decide +kernel) ⟨Nat.le_of_ble_eq_true rfl, Nat.le_of_ble_eq_true rfl⟩) (recvN hKW.1 hP (i := i) (by omega)) hKW hP hD hS rfl hl.1 rfl (Nat.le_of_ble_eq_true rfl) d_Na_putOnes_33 ⟨Nat.zero_le _, Nat.zero_le _⟩ (fun w2 H locs hp hP hD hS => ?_)
  simp only [sW_pW, pW_pW] at hp
  have e2 := ones_val (sW w i) n
  exact W.vret hx hb hr (fun t ht hW => ⟨⟨w2, rfl, ⟨by rw [hp]; exact eqN_tr w i _ _, by rw [hp]; have := NV_tr (w := w) (i := i) (n := n / 32 + 1) (f := upd (fl (sW w i) 0 (n / 32) (-1)) (n / 32) (sl (nI 1) (n % 32) - nI 1)) (by omega); rw [e2] at this; exact this⟩, BW_of ht hP⟩, hS.F ht⟩) hS.2.2 d_Na_putOnes_36

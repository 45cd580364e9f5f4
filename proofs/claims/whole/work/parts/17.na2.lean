/-! NUMBERS: the contracts of Natural, 2 (rows laid by wip/whole/gen/c_na2.py) -/
set_option maxHeartbeats 4000000 in
set_option maxRecDepth 100000 in
/-- countBits() -/
theorem c_Na_countBits (l : Launch) {D : va_G} {cI cB cR : ClassId} {ad : Nat → Nat} (w : St) (sz : Nat) {i v : Nat} (hi : i < 14) (hv : NV w i v) : Met l y_Na_countBits (q_Na_countBits :: wA) { frames := 2, cells := 0, slots := 0, locals := 60 } (va_Pc [.ref (ad (2 * i + 8))] (PW D cI cB cR ad w sz)) (va_Qi (fun (r : Int32) (w1 : St) => r = nI (nb v) ∧ w1 = w) (BW D cI cB cR ad) (AA ad sz)) 0 0 (AA ad sz) := by
  refine Met.ofW (cc := b_Na_countBits) (maxL := 1) (ret := (some (.int))) (by decide) rfl ?_
  intro p e s m args below meth c s₁ B hml hv
  obtain ⟨rfl, hsz, hP, hD0, hKW⟩ := hv
  have hx := B.exec
  have hb := B.bytes
  have hr := B.returns
  have hts := atoms_spec (ws := q_Na_countBits :: wA) B.pre
  have hown : s.vm.findClass R_Na = some m.cls := findClass_of_methodNamed B.named
  have hlocks := B.notSynchronized
  subst hsz
  have hD := NC_AA (sz := s.heap.size) hD0
  have hS : va_S (AA ad s.heap.size) s.heap s.heap [] := va_S.rf
  have hl := lv_entry ([.ref (ad (2 * i + 8))]) (n := 1) (Nat.le_of_ble_eq_true rfl)
  rw [lg_entry_eq]
  generalize (lg_sl ([.ref (ad (2 * i + 8))]) ++ List.replicate (1 - (lg_sl ([.ref (ad (2 * i + 8))])).length) Slot.unset).toArray = ls at hl ⊢
  have hl : lv_has ls 1 [(0, .ref (ad (2 * i + 8)))] := hl
  have hlen := hv.len
  refine lv_aload_n hx hb d_Na_countBits_0 rfl (lv_at hl 0 rfl) ?_
  refine nw_gL hx hb hts hown hKW.1 hP (i := i) (by omega) (n := sL (w) i) rfl lf_Na_15 d_Na_countBits_1 ?_
  refine lv_if_ne (tgt := 11) hx hb d_Na_countBits_4 (by decide) (fun c4 => ?_) (fun c4 => ?_)
  · skip
    have c4 : ¬ (sL (w) i = 0) := fun h => c4 (by have := (nI_eq (by omega) (by omega)).mpr h; rwa [nI_0] at this)
    have c4 : ¬ sL w i = 0 := c4
    refine lv_bipush (v := nI (32)) hx hb d_Na_countBits_11 (by decide) ?_
    refine lv_aload_n hx hb d_Na_countBits_13 rfl (lv_at hl 0 rfl) ?_
    refine nw_gL hx hb hts hown hKW.1 hP (i := i) (by omega) (n := sL (w) i) rfl lf_Na_15 d_Na_countBits_14 ?_
    refine lv_iconst (v := nI (1)) hx hb d_Na_countBits_17 (by decide) ?_
    refine nw_isub (v := nI (sL w i - 1)) hx hb d_Na_countBits_18 (pk_sub (by omega)) ?_
    refine nw_imul (v := nI (32 * (sL w i - 1))) hx hb d_Na_countBits_19 (pk_mul _ _) ?_
    refine lv_aload_n hx hb d_Na_countBits_20 rfl (lv_at hl 0 rfl) ?_
    refine nw_gW hx hb hts hown hKW.1 hP (i := i) (by omega) lf_Na_9 d_Na_countBits_21 ?_
    refine lv_aload_n hx hb d_Na_countBits_24 rfl (lv_at hl 0 rfl) ?_
    refine nw_gL hx hb hts hown hKW.1 hP (i := i) (by omega) (n := sL (w) i) rfl lf_Na_15 d_Na_countBits_25 ?_
    refine lv_iconst (v := nI (1)) hx hb d_Na_countBits_28 (by decide) ?_
    refine nw_isub (v := nI (sL w i - 1)) hx hb d_Na_countBits_29 (pk_sub (by omega)) ?_
    refine nw_lW hx hb hKW.1 hP (i := i) (by omega) (j := sL w i - 1) (by omega) (x := sW (w) i (sL w i - 1)) rfl d_Na_countBits_30 ?_
    refine wSN_i (As := [.int (sW (w) i (sL w i - 1))]) (rest := [.int (nI (32 * (sL w i - 1)))]) (n := 1) ⟨hx, hb, hml, hown, hts⟩ (c_Lw_bitsOf l w _ (sW w i (sL w i - 1))) (cwN0 1 hts hKW.2.1 nest_Na st_Lw_bitsOf in_Lw kq_Lw_bitsOf rfl rfl rfl (by decide +kernel) ⟨Nat.le_of_ble_eq_true rfl, Nat.le_of_ble_eq_true rfl⟩) hKW hP hD hS rfl hl.1 rfl (Nat.le_of_ble_eq_true rfl) d_Na_countBits_31 ⟨Nat.zero_le _, Nat.zero_le _⟩ (fun r w1 H locs hp hP hD hS => ?_)
    obtain ⟨hp, ew⟩ := hp
    rw [ew] at hP hD
    subst hp
    refine nw_iadd (v := nI (32 * (sL w i - 1) + (nb (wN (sW w i (sL w i - 1)))))) hx hb d_Na_countBits_34 (nI_add _ _) ?_
    rw [show 32 * (sL w i - 1) + nb (wN (sW w i (sL w i - 1))) = nb v from (hv.nb c4).symm]
    exact W.iret (v := nI (nb v)) hx hb hr (fun t ht hW => ⟨⟨_, w, rfl, ⟨rfl, rfl⟩, BW_of ht hP⟩, hS.F ht⟩) hS.2.2 d_Na_countBits_35
  · skip
    have c4 : sL (w) i = 0 := (nI_eq (by omega) (by omega)).mp (by rw [nI_0]; exact c4)
    have hz : v = 0 := hv.zero.mp (by omega)
    refine lv_iconst (v := nI (0)) hx hb d_Na_countBits_7 (by decide) ?_
    refine lv_goto (tgt := 35) hx hb d_Na_countBits_8 (by decide) ?_
    exact W.iret (v := nI (0)) hx hb hr (fun t ht hW => ⟨⟨_, w, rfl, ⟨by rw [hz, nb_0], rfl⟩, BW_of ht hP⟩, hS.F ht⟩) hS.2.2 d_Na_countBits_35
set_option maxHeartbeats 4000000 in
set_option maxRecDepth 100000 in
/-- putLong(value) -/
theorem c_Na_putLong (l : Launch) {D : va_G} {cI cB cR : ClassId} {ad : Nat → Nat} (w : St) (sz : Nat) {i : Nat} (hi : i < 14) (x : Int64) : Met l y_Na_putLong (q_Na_putLong :: wA) { frames := 1, cells := 0, slots := 0, locals := 24 } (va_Pc [.ref (ad (2 * i + 8)), .long (x)] (PW D cI cB cR ad w sz)) (va_Qv (fun w1 : St => eqN w w1 i ∧ NV w1 i (uL x)) (BW D cI cB cR ad) (AA ad sz)) 0 0 (AA ad sz) := by
  refine Met.ofW (cc := b_Na_putLong) (maxL := 3) (ret := none) (by decide) rfl ?_
  intro p e s m args below meth c s₁ B hml hv
  obtain ⟨rfl, hsz, hP, hD0, hKW⟩ := hv
  have hx := B.exec
  have hb := B.bytes
  have hr := B.returns
  have hts := atoms_spec (ws := q_Na_putLong :: wA) B.pre
  have hown : s.vm.findClass R_Na = some m.cls := findClass_of_methodNamed B.named
  have hlocks := B.notSynchronized
  subst hsz
  have hD := NC_AA (sz := s.heap.size) hD0
  have hS : va_S (AA ad s.heap.size) s.heap s.heap [] := va_S.rf
  have hl := lv_entry ([.ref (ad (2 * i + 8)), .long (x)]) (n := 3) (Nat.le_of_ble_eq_true rfl)
  rw [lg_entry_eq]
  generalize (lg_sl ([.ref (ad (2 * i + 8)), .long (x)]) ++ List.replicate (3 - (lg_sl ([.ref (ad (2 * i + 8)), .long (x)])).length) Slot.unset).toArray = ls at hl ⊢
  have hl : lv_has ls 3 [(0, .ref (ad (2 * i + 8))), (1, .long (x))] := hl
  obtain ⟨u, hu⟩ : ∃ u, u = uL x := ⟨_, rfl⟩
  have hu2 := uL_lt x
  have hux : x = lN u := by rw [hu, lN_uL]
  rw [← hu] at hu2
  subst hux
  have hl : lv_has ls 3 [(0, .ref (ad (2 * i + 8))), (1, .long (lN (u)))] := hl
  refine lv_aload_n hx hb d_Na_putLong_0 rfl (lv_at hl 0 rfl) ?_
  refine nw_gW hx hb hts hown hKW.1 hP (i := i) (by omega) lf_Na_9 d_Na_putLong_1 ?_
  refine lv_iconst (v := nI (0)) hx hb d_Na_putLong_4 (by decide) ?_
  refine lv_lload_n hx hb d_Na_putLong_5 rfl (lv_at hl 1 rfl) ?_
  refine lv_l2i (v := nI (u)) hx hb d_Na_putLong_6 (lN_i _) ?_
  refine nw_sW hx hb hKW.1 hP hD hS (i := i) (by omega) (j := 0) (by omega) d_Na_putLong_7 (fun H locs hP hD hS => ?_)
  refine lv_aload_n hx hb d_Na_putLong_8 rfl (lv_at hl 0 rfl) ?_
  refine nw_gW hx hb hts hown hKW.1 hP (i := i) (by omega) lf_Na_9 d_Na_putLong_9 ?_
  refine lv_iconst (v := nI (1)) hx hb d_Na_putLong_12 (by decide) ?_
  refine lv_lload_n hx hb d_Na_putLong_13 rfl (lv_at hl 1 rfl) ?_
  refine lv_bipush (v := nI (32)) hx hb d_Na_putLong_14 (by decide) ?_
  refine lv_lushr (v := lN (u / 4294967296)) hx hb d_Na_putLong_16 (lN_shr32 (by omega)) ?_
  refine lv_l2i (v := nI (u / 4294967296)) hx hb d_Na_putLong_17 (lN_i _) ?_
  refine nw_sW hx hb hKW.1 hP hD hS (i := i) (by omega) (j := 1) (by omega) d_Na_putLong_18 (fun H locs hP hD hS => ?_)
  refine lv_aload_n hx hb d_Na_putLong_19 rfl (lv_at hl 0 rfl) ?_
  refine lv_iconst (v := nI (2)) hx hb d_Na_putLong_20 (by decide) ?_
  refine wV_v (As := [.int (nI (2))]) (rest := []) (n := 1) ⟨hx, hb, hml, hown, hts⟩ (c_Na_trim l (pW (pW (w) i (upd (sW (w) i) (0) (nI (u)))) i (upd (sW (pW (w) i (upd (sW (w) i) (0) (nI (u)))) i) (1) (nI (u / 4294967296)))) _ (i := i) (n := 2) hi (by omega)) (cwV0 1 hts lm_Na_23 im_Na_trim se_Na_trim in_Na kq_Na_trim rfl rfl rfl (by decide +kernel) ⟨Nat.le_of_ble_eq_true rfl, Nat.le_of_ble_eq_true rfl⟩) (recvN hKW.1 hP (i := i) (by omega)) hKW hP hD hS rfl hl.1 rfl (Nat.le_of_ble_eq_true rfl) d_Na_putLong_21 ⟨Nat.zero_le _, Nat.zero_le _⟩ (fun w1 H locs hp hP hD hS => ?_)
  simp only [sW_pW, pW_pW] at hp
  have e2 : vN (upd (upd (sW w i) 0 (nI u)) 1 (nI (u / 4294967296))) 0 2 = u := by
    rw [vN_suc0, vN_suc0, vN_0, pk_us, pk_un (by decide), pk_us, wN_nI, wN_nI]
    omega
  exact W.vret hx hb hr (fun t ht hW => ⟨⟨w1, rfl, ⟨by rw [hp]; exact eqN_tr w i _ _, by rw [hp, ← hu]; have := NV_tr (w := w) (i := i) (n := 2) (f := upd (upd (sW w i) 0 (nI u)) 1 (nI (u / 4294967296))) (by decide); rw [e2] at this; exact this⟩, BW_of ht hP⟩, hS.F ht⟩) hS.2.2 d_Na_putLong_24

/-! THE REFERENCE: divide (rows laid by wip/whole/gen/c_mo2.py) -/
theorem dv_sh {x : Nat} (h : x < 1073741824) (h0 : nI x &&& 536870912 = 0) : x < 536870912 := by
  rcases Nat.lt_or_ge x 536870912 with q | q
  · exact q
  · exfalso
    have h1 := congrArg wN h0
    rw [wN_0] at h1
    have h2 : wN (nI x &&& 536870912) = x &&& 536870912 := by
      show (BitVec.ofNat 32 x &&& 536870912#32).toNat = _
      rw [BitVec.toNat_and, BitVec.toNat_ofNat, Nat.mod_eq_of_lt (by omega)]
      rfl
    rw [h2] at h1
    have h3 : (x &&& 536870912).testBit 29 = true := by
      rw [Nat.testBit_and]
      have a1 : x.testBit 29 = true := by
        rw [Nat.testBit_eq_decide_div_mod_eq]
        have : x / 2 ^ 29 = 1 := by omega
        rw [this]
        rfl
      rw [a1]
      decide
    rw [h1, Nat.zero_testBit] at h3
    exact Bool.noConfusion h3
theorem p2_up {v a k : Nat} (h : v < 2 ^ a) (hk : k ≤ 30) : v * 2 ^ k < 2 ^ (a + 30) := by
  rw [Nat.pow_add]
  exact Nat.lt_of_lt_of_le (Nat.mul_lt_mul_of_pos_right h (Nat.pow_pos (by decide))) (Nat.mul_le_mul_left _ (Nat.pow_le_pow_right (by decide) hk))
theorem NU.len_lt {w : Mt} {a b v u : Nat} (hv : NU w a v) (hu : NU w b u) (h3 : W3 w) (h : mL w a < mL w b) : v < u :=
  Nat.lt_of_lt_of_le (hv.lt h3) (Nat.le_trans (Nat.pow_le_pow_right (by decide) (by omega)) (hu.ge (by omega)))
set_option maxHeartbeats 4000000 in
set_option maxRecDepth 100000 in
/-- divide(x, y, times) -/
theorem c_Mo_divide_NNN (l : Launch) {D : va_G} {cI cB cR : ClassId} {ad : Nat → Nat} (w : Mt) (sz : Nat) {t v u : Nat} (ht : t = 10 ∨ t = 12) (h3 : W3 w) (hv : NU w 11 v) (hu : NU w 15 u) (hu0 : u ≠ 0) (hvb : v < 2 ^ 200100) (hub : u < 2 ^ 200100) : Met l y_Mo_divide_NNN (q_Mo_divide_NNN :: wA) { frames := 3, cells := 0, slots := 0, locals := 130 } (va_Pc [.ref (ad 0), .ref (ad 26), .ref (ad 34), .ref (ad (2 * t + 4))] (PM D cI cB cR ad w sz)) (va_Qv (fun w1 : Mt => eqM w w1 [t, 13, 14] ∧ NU w1 t (v / u) ∧ NU w1 13 (v % u) ∧ W3 w1) (BM D cI cB cR ad) (AM ad sz)) 0 0 (AM ad sz) := by
  refine Met.ofW (cc := b_Mo_divide_NNN) (maxL := 12) (ret := none) (by decide) rfl ?_
  intro p e s m args below meth c s₁ B hml hv
  obtain ⟨rfl, hsz, hP, hD0, hKW⟩ := hv
  have hx := B.exec
  have hb := B.bytes
  have hr := B.returns
  have hts := atoms_spec (ws := q_Mo_divide_NNN :: wA) B.pre
  have hown : s.vm.findClass R_Mo = some m.cls := findClass_of_methodNamed B.named
  have hlocks := B.notSynchronized
  subst hsz
  have hD := NM_AM (sz := s.heap.size) hD0
  have hS : va_S (AM ad s.heap.size) s.heap s.heap [] := va_S.rf
  have hl := lv_entry ([.ref (ad 0), .ref (ad 26), .ref (ad 34), .ref (ad (2 * t + 4))]) (n := 12) (Nat.le_of_ble_eq_true rfl)
  rw [lg_entry_eq]
  generalize (lg_sl ([.ref (ad 0), .ref (ad 26), .ref (ad 34), .ref (ad (2 * t + 4))]) ++ List.replicate (12 - (lg_sl ([.ref (ad 0), .ref (ad 26), .ref (ad 34), .ref (ad (2 * t + 4))])).length) Slot.unset).toArray = ls at hl ⊢
  have hl : lv_has ls 12 [(0, .ref (ad 0)), (1, .ref (ad 26)), (2, .ref (ad 34)), (3, .ref (ad (2 * t + 4)))] := hl
  have hlu := hu.fit hub
  have hlv := hv.fit hvb
  have hlu0 : mL w 15 ≠ 0 := fun z => hu0 (hu.zero.mp z)
  have tail : ∀ (sf : Nat) (ls : Array Slot), sf ≤ 29 → lv_has ls 12 [(4, .int (nI (sf))), (0, .ref (ad 0)), (1, .ref (ad 26)), (2, .ref (ad 34)), (3, .ref (ad (2 * t + 4)))] → W p l e (headSpec (q_Mo_divide_NNN :: wA) { frames := 3, cells := 0, slots := 0, locals := 130 }).room s m ([.ref (ad 0), .ref (ad 26), .ref (ad 34), .ref (ad (2 * t + 4))] : List Value).toArray below meth c s.heap [] 0 0 (MQ below (va_Qv (fun w1 : Mt => eqM w w1 [t, 13, 14] ∧ NU w1 t (v / u) ∧ NU w1 13 (v % u) ∧ W3 w1) (BM D cI cB cR ad) (AM ad s.heap.size)) ([.ref (ad 0), .ref (ad 26), .ref (ad 34), .ref (ad (2 * t + 4))] : List Value).toArray s 0 0 (AM ad s.heap.size)) (F0 m 29 ls []) := by
    intro sf ls hsf hl
    refine lv_aload_n hx hb d_Mo_divide_NNN_29 rfl (lv_at hl 1 rfl) ?_
    refine mw_gF5 hx hb hts hown hKW.1 hP lf_Mo_31 d_Mo_divide_NNN_30 ?_
    refine lv_aload_n hx hb d_Mo_divide_NNN_33 rfl (lv_at hl 3 rfl) ?_
    refine zV_v (As := [.ref (ad 34)]) (rest := []) (n := 1) ⟨hx, hb, hml, hown, hts⟩ (c_Mn_set_N l w _ (i := 14) (a := 15) (by omega) (by omega) (by omega) h3 hu) (cwV0 1 hts lm_Mo_69 im_Mn_set_N se_Mn_set_N in_Mn kq_Mn_set_N rfl rfl rfl (by decide +kernel) ⟨Nat.le_of_ble_eq_true rfl, Nat.le_of_ble_eq_true rfl⟩) (recMn hKW.1 hP (i := 14) (by omega)) hKW hP hD hS rfl hl.1 rfl (Nat.le_of_ble_eq_true rfl) d_Mo_divide_NNN_34 ⟨Nat.zero_le _, Nat.zero_le _⟩ (fun w1 H locs hp hP hD hS => ?_)
    obtain ⟨hE1, hV1, h31⟩ := hp
    have hf1 := hV1.fit hub
    refine lv_aload_n hx hb d_Mo_divide_NNN_37 rfl (lv_at hl 1 rfl) ?_
    refine mw_gF5 hx hb hts hown hKW.1 hP lf_Mo_31 d_Mo_divide_NNN_38 ?_
    refine lv_iload hx hb d_Mo_divide_NNN_41 (lv_at hl 0 rfl) ?_
    refine zV_v (As := [.int (nI (sf))]) (rest := []) (n := 1) ⟨hx, hb, hml, hown, hts⟩ (c_Mn_up l w1 _ (i := 14) (k := sf) (by omega) h31 hV1 (by omega) (by omega)) (cwV0 1 hts lm_Mo_96 im_Mn_up se_Mn_up in_Mn kq_Mn_up rfl rfl rfl (by decide +kernel) ⟨Nat.le_of_ble_eq_true rfl, Nat.le_of_ble_eq_true rfl⟩) (recMn hKW.1 hP (i := 14) (by omega)) hKW hP hD hS rfl hl.1 rfl (Nat.le_of_ble_eq_true rfl) d_Mo_divide_NNN_43 ⟨Nat.zero_le _, Nat.zero_le _⟩ (fun w2 H locs hp hP hD hS => ?_)
    obtain ⟨hE2, hV2, h32⟩ := hp
    have hE12 := hE1.trans hE2
    refine lv_aload_n hx hb d_Mo_divide_NNN_46 rfl (lv_at hl 1 rfl) ?_
    refine mw_gF4 hx hb hts hown hKW.1 hP lf_Mo_28 d_Mo_divide_NNN_47 ?_
    refine lv_aload_n hx hb d_Mo_divide_NNN_50 rfl (lv_at hl 2 rfl) ?_
    refine zV_v (As := [.ref (ad 26)]) (rest := []) (n := 1) ⟨hx, hb, hml, hown, hts⟩ (c_Mn_set_N l w2 _ (i := 13) (a := 11) (by omega) (by omega) (by omega) h32 (hE12.nu (by simp) hv)) (cwV0 1 hts lm_Mo_69 im_Mn_set_N se_Mn_set_N in_Mn kq_Mn_set_N rfl rfl rfl (by decide +kernel) ⟨Nat.le_of_ble_eq_true rfl, Nat.le_of_ble_eq_true rfl⟩) (recMn hKW.1 hP (i := 13) (by omega)) hKW hP hD hS rfl hl.1 rfl (Nat.le_of_ble_eq_true rfl) d_Mo_divide_NNN_51 ⟨Nat.zero_le _, Nat.zero_le _⟩ (fun w3 H locs hp hP hD hS => ?_)
    obtain ⟨hE3, hV3, h33⟩ := hp
    have hf3 := hV3.fit hvb
    refine lv_aload_n hx hb d_Mo_divide_NNN_54 rfl (lv_at hl 1 rfl) ?_
    refine mw_gF4 hx hb hts hown hKW.1 hP lf_Mo_28 d_Mo_divide_NNN_55 ?_
    refine lv_iload hx hb d_Mo_divide_NNN_58 (lv_at hl 0 rfl) ?_
    refine zV_v (As := [.int (nI (sf))]) (rest := []) (n := 1) ⟨hx, hb, hml, hown, hts⟩ (c_Mn_up l w3 _ (i := 13) (k := sf) (by omega) h33 hV3 (by omega) (by omega)) (cwV0 1 hts lm_Mo_96 im_Mn_up se_Mn_up in_Mn kq_Mn_up rfl rfl rfl (by decide +kernel) ⟨Nat.le_of_ble_eq_true rfl, Nat.le_of_ble_eq_true rfl⟩) (recMn hKW.1 hP (i := 13) (by omega)) hKW hP hD hS rfl hl.1 rfl (Nat.le_of_ble_eq_true rfl) d_Mo_divide_NNN_60 ⟨Nat.zero_le _, Nat.zero_le _⟩ (fun w4 H locs hp hP hD hS => ?_)
    obtain ⟨hE4, hV4, h34⟩ := hp
    have hE34 := hE3.trans hE4
    have hD4 : NU w4 14 (u * 2 ^ sf) := hE34.nu (by simp) hV2
    have hE : eqM w w4 [t, 13, 14] := (hE12.mono (by simp)).trans (hE34.mono (by simp))
    have hfd := hD4.fit (p2_up (k := sf) hub (by omega))
    have hfr := hV4.fit (p2_up (k := sf) hvb (by omega))
    obtain ⟨nd, hnd⟩ : ∃ nd, mL w4 14 = nd := ⟨_, rfl⟩
    obtain ⟨nr, hnr⟩ : ∃ nr, mL w4 13 = nr := ⟨_, rfl⟩
    rw [hnd] at hfd
    rw [hnr] at hfr
    have hp2 : 0 < 2 ^ sf := Nat.pow_pos (by decide)
    have hD0 : 0 < u * 2 ^ sf := Nat.mul_pos (by omega) hp2
    have hnd1 : 1 ≤ nd := by rcases Nat.eq_zero_or_pos nd with z | z; have := hD4.zero.mp (hnd.trans z); omega; exact z
    refine lv_aload_n hx hb d_Mo_divide_NNN_63 rfl (lv_at hl 1 rfl) ?_
    refine mw_gF5 hx hb hts hown hKW.1 hP lf_Mo_31 d_Mo_divide_NNN_64 ?_
    refine mw_gL hx hb hts hown hKW.1 hP (i := 14) (by omega) (n := nd) hnd lf_Mo_89 d_Mo_divide_NNN_67 ?_
    refine lv_istore (lv' := [(5, .int (nI (nd))), (4, .int (nI (sf))), (0, .ref (ad 0)), (1, .ref (ad 26)), (2, .ref (ad 34)), (3, .ref (ad (2 * t + 4)))]) hx hb d_Mo_divide_NNN_70 hl (by decide) rfl (fun ls hl => ?_)
    refine lv_aload_n hx hb d_Mo_divide_NNN_72 rfl (lv_at hl 2 rfl) ?_
    refine mw_gF4 hx hb hts hown hKW.1 hP lf_Mo_28 d_Mo_divide_NNN_73 ?_
    refine mw_gL hx hb hts hown hKW.1 hP (i := 13) (by omega) (n := nr) hnr lf_Mo_89 d_Mo_divide_NNN_76 ?_
    refine lv_iload hx hb d_Mo_divide_NNN_79 (lv_at hl 0 rfl) ?_
    rcases Nat.lt_or_ge nr nd with hc | hc
    · skip
      have hneg : nI nr - nI nd < 0 := by
        rw [nI_sZ, show (0 : Int32) = iZ 0 from rfl, iZ_lt (by omega) (by omega) (by omega) (by omega)]
        omega
      refine nw_isub (v := nI nr - nI nd) hx hb d_Mo_divide_NNN_81 rfl ?_
      refine lv_istore (lv' := [(6, .int (nI nr - nI nd)), (5, .int (nI (nd))), (4, .int (nI (sf))), (0, .ref (ad 0)), (1, .ref (ad 26)), (2, .ref (ad 34)), (3, .ref (ad (2 * t + 4)))]) hx hb d_Mo_divide_NNN_82 hl (by decide) rfl (fun ls hl => ?_)
      refine lv_iload hx hb d_Mo_divide_NNN_84 (lv_at hl 0 rfl) ?_
      refine lv_if_ge (tgt := 104) hx hb d_Mo_divide_NNN_86 (by decide) (fun c86 => ?_) (fun c86 => ?_)
      · exact absurd hneg (Int32.not_lt.mpr c86)
      · skip
        have hlt : v < u := Nat.lt_of_mul_lt_mul_right (hV4.len_lt hD4 h34 (by omega))
        refine lv_aload_n hx hb d_Mo_divide_NNN_89 rfl (lv_at hl 6 rfl) ?_
        refine lv_lconst (v := lN (0)) hx hb d_Mo_divide_NNN_90 (by decide) ?_
        refine zV_v (As := [.long (lN (0))]) (rest := []) (n := 1) ⟨hx, hb, hml, hown, hts⟩ (c_Mn_set_J l w4 _ (i := t) (V := 0) (by omega) (by decide) h34) (cwV0 1 hts lm_Mo_80 im_Mn_set_J se_Mn_set_J in_Mn kq_Mn_set_J rfl rfl rfl (by decide +kernel) ⟨Nat.le_of_ble_eq_true rfl, Nat.le_of_ble_eq_true rfl⟩) (recMn hKW.1 hP (i := t) (by omega)) hKW hP hD hS rfl hl.1 rfl (Nat.le_of_ble_eq_true rfl) d_Mo_divide_NNN_91 ⟨Nat.zero_le _, Nat.zero_le _⟩ (fun w5 H locs hp hP hD hS => ?_)
        obtain ⟨hE5, hV5, h35⟩ := hp
        refine lv_aload_n hx hb d_Mo_divide_NNN_94 rfl (lv_at hl 3 rfl) ?_
        refine mw_gF4 hx hb hts hown hKW.1 hP lf_Mo_28 d_Mo_divide_NNN_95 ?_
        refine lv_iload hx hb d_Mo_divide_NNN_98 (lv_at hl 2 rfl) ?_
        refine zV_v (As := [.int (nI (sf))]) (rest := []) (n := 1) ⟨hx, hb, hml, hown, hts⟩ (c_Mn_down l w5 _ (i := 13) (k := sf) (by omega) h35 (hE5.nu (by simp; omega) hV4) (by omega)) (cwV0 1 hts lm_Mo_99 im_Mn_down se_Mn_down in_Mn kq_Mn_down rfl rfl rfl (by decide +kernel) ⟨Nat.le_of_ble_eq_true rfl, Nat.le_of_ble_eq_true rfl⟩) (recMn hKW.1 hP (i := 13) (by omega)) hKW hP hD hS rfl hl.1 rfl (Nat.le_of_ble_eq_true rfl) d_Mo_divide_NNN_100 ⟨Nat.zero_le _, Nat.zero_le _⟩ (fun w6 H locs hp hP hD hS => ?_)
        obtain ⟨hE6, hV6, h36⟩ := hp
        rw [Nat.mul_div_cancel _ hp2] at hV6
        exact W.vret hx hb hr (fun t ht hW => ⟨⟨w6, rfl, ⟨hE.trans ((hE5.mono (by simp)).trans (hE6.mono (by simp))), by rw [Nat.div_eq_of_lt hlt]; exact hE6.nu (by simp; omega) hV5, by rw [Nat.mod_eq_of_lt hlt]; exact hV6, h36⟩, BM_of ht hP⟩, hS.F ht⟩) hS.2.2 d_Mo_divide_NNN_103
    · skip
      obtain ⟨mq, hmq⟩ : ∃ mq, nr = nd + mq := ⟨nr - nd, by omega⟩
      refine nw_isub (v := nI (mq)) hx hb d_Mo_divide_NNN_81 ((pk_sub (by omega)).trans (by rw [show nr - nd = mq by omega])) ?_
      refine lv_istore (lv' := [(6, .int (nI (mq))), (5, .int (nI (nd))), (4, .int (nI (sf))), (0, .ref (ad 0)), (1, .ref (ad 26)), (2, .ref (ad 34)), (3, .ref (ad (2 * t + 4)))]) hx hb d_Mo_divide_NNN_82 hl (by decide) rfl (fun ls hl => ?_)
      refine lv_iload hx hb d_Mo_divide_NNN_84 (lv_at hl 0 rfl) ?_
      refine lv_if_ge (tgt := 104) hx hb d_Mo_divide_NNN_86 (by decide) (fun c86 => ?_) (fun c86 => ?_)
      · skip
        have c86 : 0 ≤ mq := (nI_leI (by omega) (by omega)).mp (by first | (rw [nI_0]; exact c86) | rw [nI_0])
        refine lv_aload_n hx hb d_Mo_divide_NNN_104 rfl (lv_at hl 3 rfl) ?_
        refine mw_gF4 hx hb hts hown hKW.1 hP lf_Mo_28 d_Mo_divide_NNN_105 ?_
        refine mw_gW hx hb hts hown hKW.1 hP (i := 13) (by omega) lf_Mo_118 d_Mo_divide_NNN_108 ?_
        refine lv_aload_n hx hb d_Mo_divide_NNN_111 rfl (lv_at hl 3 rfl) ?_
        refine mw_gF4 hx hb hts hown hKW.1 hP lf_Mo_28 d_Mo_divide_NNN_112 ?_
        refine mw_gL hx hb hts hown hKW.1 hP (i := 13) (by omega) (n := nr) hnr lf_Mo_89 d_Mo_divide_NNN_115 ?_
        refine lv_iconst (v := nI (0)) hx hb d_Mo_divide_NNN_118 (by decide) ?_
        refine mw_sW hx hb hKW.1 hP hD hS (i := 13) (by omega) (j := nr) (by omega) d_Mo_divide_NNN_119 (fun H locs hP hD hS => ?_)
        rw [st_ofW] at hP hD
        obtain ⟨w5, hw5⟩ : ∃ w5, w5 = st w4 13 (upM (mW w4 13) nr 0) (mL w4 13) := ⟨_, rfl⟩
        rw [← hw5] at hP hD
        have h35 : W3 w5 := by rw [hw5]; exact h34.st (upM_B (h34 13) (by decide))
        have hE5 : eqM w4 w5 [13] := by rw [hw5]; exact eqM_st _ _ _ _
        have m13 : mW w5 13 = upM (mW w4 13) nr 0 := by rw [hw5]; exact st_mW
        have l13 : mL w5 13 = nr := by rw [hw5, st_mL]; exact hnr
        have hD5 : NU w5 14 (u * 2 ^ sf) := hE5.nu (by simp) hD4
        have l14 : mL w5 14 = nd := by rw [(hE5.1 14 (by simp)).2]; exact hnd
        have hDv : uV (mW w5 14) 0 nd = u * 2 ^ sf := by rw [← l14]; exact hD5.2.2
        have hdt : mW w5 14 (nd - 1) ≠ 0 := by rcases hD5.2.1 with z | z; omega; rw [l14] at z; exact z
        have hDlt : u * 2 ^ sf ≤ 1073741824 ^ nd := by rw [← hDv]; exact Nat.le_of_lt (uV_lt (h35 14) _ _)
        have hDge : 1073741824 ^ (nd - 1) ≤ u * 2 ^ sf := by have := hD5.ge (by omega); rw [l14] at this; exact this
        have hNv : uV (mW w5 13) 0 (mq + 1 + nd) = v * 2 ^ sf := by
          rw [m13, show mq + 1 + nd = nr + 1 by omega, uV_suc0, upM_s, Nat.zero_mul, Nat.add_zero, uV_out (Or.inr (by omega)), ← hnr]
          exact hV4.2.2
        have hNlt : uV (mW w5 13) 0 (mq + 1 + nd) < u * 2 ^ sf * 1073741824 ^ (mq + 1) := by
          rw [hNv]
          have a1 := hV4.lt h34
          rw [hnr] at a1
          have a2 : 1073741824 ^ (nd - 1) * 1073741824 ^ (mq + 1) ≤ u * 2 ^ sf * 1073741824 ^ (mq + 1) := Nat.mul_le_mul_right _ hDge
          rw [← Nat.pow_add, show nd - 1 + (mq + 1) = nr by omega] at a2
          omega
        have fin : ∀ (f g : Nat → Nat) (H : Heap) (locs : List Loc) (ls : Array Slot), B3 f → B3 g → v * 2 ^ sf = uV g 0 (mq + 1) * (u * 2 ^ sf) + uV f 0 nd → uV f 0 nd < u * 2 ^ sf → va_P D clA (NM cI cB cR ad (st (st w5 13 f nr) t g (mL w5 t))) H → va_D (AM ad s.heap.size) (NM cI cB cR ad (st (st w5 13 f nr) t g (mL w5 t))) → va_S (AM ad s.heap.size) s.heap H locs → lv_has ls 12 [(4, .int (nI (sf))), (5, .int (nI (nd))), (6, .int (nI (mq))), (0, .ref (ad 0)), (1, .ref (ad 26)), (2, .ref (ad 34)), (3, .ref (ad (2 * t + 4)))] → W p l e (headSpec (q_Mo_divide_NNN :: wA) { frames := 3, cells := 0, slots := 0, locals := 130 }).room s m ([.ref (ad 0), .ref (ad 26), .ref (ad 34), .ref (ad (2 * t + 4))] : List Value).toArray below meth c H locs 0 0 (MQ below (va_Qv (fun w1 : Mt => eqM w w1 [t, 13, 14] ∧ NU w1 t (v / u) ∧ NU w1 13 (v % u) ∧ W3 w1) (BM D cI cB cR ad) (AM ad s.heap.size)) ([.ref (ad 0), .ref (ad 26), .ref (ad 34), .ref (ad (2 * t + 4))] : List Value).toArray s 0 0 (AM ad s.heap.size)) (F0 m 266 ls []) := by
          intro f g H locs ls hB hG hN hR hP hD hS hl
          have hq := pq_fin (up := sf) (D := u * 2 ^ sf) rfl rfl (by omega) hN hR
          refine lv_aload_n hx hb d_Mo_divide_NNN_266 rfl (lv_at hl 6 rfl) ?_
          refine lv_iload hx hb d_Mo_divide_NNN_267 (lv_at hl 2 rfl) ?_
          refine lv_iconst (v := nI (1)) hx hb d_Mo_divide_NNN_269 (by decide) ?_
          refine nw_iadd (v := nI (mq + 1)) hx hb d_Mo_divide_NNN_270 (nI_add _ _) ?_
          refine mw_pL hx hb hts hown hKW.1 hP hD hS (i := t) (by omega) lf_Mo_89 d_Mo_divide_NNN_271 (fun H locs hP hD hS => ?_)
          rw [st_qL] at hP hD
          refine lv_aload_n hx hb d_Mo_divide_NNN_274 rfl (lv_at hl 6 rfl) ?_
          refine lv_iload hx hb d_Mo_divide_NNN_275 (lv_at hl 2 rfl) ?_
          refine lv_iconst (v := nI (1)) hx hb d_Mo_divide_NNN_277 (by decide) ?_
          refine nw_iadd (v := nI (mq + 1)) hx hb d_Mo_divide_NNN_278 (nI_add _ _) ?_
          refine zVN_v (As := [.int (nI (mq + 1))]) (rest := []) (n := 1) ⟨hx, hb, hml, hown, hts⟩ (c_Mn_trim l (st (st w5 13 f nr) t g (mq + 1)) _ (i := t) (top := mq + 1) (by omega) ((h35.st hB).st hG) (by omega)) (cwVN 1 hts hKW im_Mn_trim se_Mn_trim in_Mn kq_Mn_trim rfl rfl rfl (by decide +kernel) ⟨Nat.le_of_ble_eq_true rfl, Nat.le_of_ble_eq_true rfl⟩) (recMn hKW.1 hP (i := t) (by omega)) hKW hP hD hS rfl hl.1 rfl (Nat.le_of_ble_eq_true rfl) d_Mo_divide_NNN_279 ⟨Nat.zero_le _, Nat.zero_le _⟩ (fun w6 H locs hp hP hD hS => ?_)
          rw [st_mW, st_st] at hp
          have h36 : W3 w6 := by rw [hp]; exact (h35.st hB).st hG
          have hT6 : NU w6 t (v / u) := by rw [hp, ← hq.1]; exact NU_tr (by omega)
          have e13 : mW w6 13 = f := by rw [hp, st_mWn _ _ _ (by omega), st_mW]
          have hE6 : eqM w5 w6 [t, 13, 14] := by rw [hp]; exact ((eqM_st _ _ _ _).mono (by simp)).trans ((eqM_st _ _ _ _).mono (by simp))
          refine lv_aload_n hx hb d_Mo_divide_NNN_282 rfl (lv_at hl 3 rfl) ?_
          refine mw_gF4 hx hb hts hown hKW.1 hP lf_Mo_28 d_Mo_divide_NNN_283 ?_
          refine lv_iload hx hb d_Mo_divide_NNN_286 (lv_at hl 1 rfl) ?_
          refine mw_pL hx hb hts hown hKW.1 hP hD hS (i := 13) (by omega) lf_Mo_89 d_Mo_divide_NNN_288 (fun H locs hP hD hS => ?_)
          rw [st_ofL] at hP hD
          refine lv_aload_n hx hb d_Mo_divide_NNN_291 rfl (lv_at hl 3 rfl) ?_
          refine mw_gF4 hx hb hts hown hKW.1 hP lf_Mo_28 d_Mo_divide_NNN_292 ?_
          refine lv_iload hx hb d_Mo_divide_NNN_295 (lv_at hl 1 rfl) ?_
          rw [e13] at hP hD
          refine zVN_v (As := [.int (nI (nd))]) (rest := []) (n := 1) ⟨hx, hb, hml, hown, hts⟩ (c_Mn_trim l (st w6 13 f nd) _ (i := 13) (top := nd) (by omega) (h36.st hB) (by omega)) (cwVN 1 hts hKW im_Mn_trim se_Mn_trim in_Mn kq_Mn_trim rfl rfl rfl (by decide +kernel) ⟨Nat.le_of_ble_eq_true rfl, Nat.le_of_ble_eq_true rfl⟩) (recMn hKW.1 hP (i := 13) (by omega)) hKW hP hD hS rfl hl.1 rfl (Nat.le_of_ble_eq_true rfl) d_Mo_divide_NNN_297 ⟨Nat.zero_le _, Nat.zero_le _⟩ (fun w7 H locs hp hP hD hS => ?_)
          rw [st_mW, st_st] at hp
          have h37 : W3 w7 := by rw [hp]; exact h36.st hB
          have hT7 : NU w7 t (v / u) := by rw [hp]; exact (eqM_st _ _ _ _).nu (by simp; omega) hT6
          have hR7 : NU w7 13 (v % u * 2 ^ sf) := by rw [hp, ← hq.2]; exact NU_tr (by omega)
          have hE7 : eqM w6 w7 [t, 13, 14] := by rw [hp]; exact (eqM_st _ _ _ _).mono (by simp)
          refine lv_aload_n hx hb d_Mo_divide_NNN_300 rfl (lv_at hl 3 rfl) ?_
          refine mw_gF4 hx hb hts hown hKW.1 hP lf_Mo_28 d_Mo_divide_NNN_301 ?_
          refine lv_iload hx hb d_Mo_divide_NNN_304 (lv_at hl 0 rfl) ?_
          refine zV_v (As := [.int (nI (sf))]) (rest := []) (n := 1) ⟨hx, hb, hml, hown, hts⟩ (c_Mn_down l w7 _ (i := 13) (k := sf) (by omega) h37 hR7 (by omega)) (cwV0 1 hts lm_Mo_99 im_Mn_down se_Mn_down in_Mn kq_Mn_down rfl rfl rfl (by decide +kernel) ⟨Nat.le_of_ble_eq_true rfl, Nat.le_of_ble_eq_true rfl⟩) (recMn hKW.1 hP (i := 13) (by omega)) hKW hP hD hS rfl hl.1 rfl (Nat.le_of_ble_eq_true rfl) d_Mo_divide_NNN_306 ⟨Nat.zero_le _, Nat.zero_le _⟩ (fun w8 H locs hp hP hD hS => ?_)
          obtain ⟨hE8, hV8, h38⟩ := hp
          rw [Nat.mul_div_cancel _ hp2] at hV8
          exact W.vret hx hb hr (fun t ht hW => ⟨⟨w8, rfl, ⟨((hE.trans (hE5.mono (by simp))).trans hE6).trans (hE7.trans (hE8.mono (by simp))), hE8.nu (by simp; omega) hT7, hV8, h38⟩, BM_of ht hP⟩, hS.F ht⟩) hS.2.2 d_Mo_divide_NNN_309
        have main : ∀ (jj t9 : Nat) (f g : Nat → Nat) (H : Heap) (locs : List Loc) (ls : Array Slot), jj + t9 = mq + 1 → B3 f → B3 g → v * 2 ^ sf = uV g jj t9 * 1073741824 ^ jj * (u * 2 ^ sf) + uV f 0 (jj + nd) → uV f 0 (jj + nd) < u * 2 ^ sf * 1073741824 ^ jj → va_P D clA (NM cI cB cR ad (st (st w5 13 f nr) t g (mL w5 t))) H → va_D (AM ad s.heap.size) (NM cI cB cR ad (st (st w5 13 f nr) t g (mL w5 t))) → va_S (AM ad s.heap.size) s.heap H locs → lv_has ls 12 [(7, .int (dn jj)), (4, .int (nI (sf))), (5, .int (nI (nd))), (6, .int (nI (mq))), (0, .ref (ad 0)), (1, .ref (ad 26)), (2, .ref (ad 34)), (3, .ref (ad (2 * t + 4)))] → W p l e (headSpec (q_Mo_divide_NNN :: wA) { frames := 3, cells := 0, slots := 0, locals := 130 }).room s m ([.ref (ad 0), .ref (ad 26), .ref (ad 34), .ref (ad (2 * t + 4))] : List Value).toArray below meth c H locs 0 0 (MQ below (va_Qv (fun w1 : Mt => eqM w w1 [t, 13, 14] ∧ NU w1 t (v / u) ∧ NU w1 13 (v % u) ∧ W3 w1) (BM D cI cB cR ad) (AM ad s.heap.size)) ([.ref (ad 0), .ref (ad 26), .ref (ad 34), .ref (ad (2 * t + 4))] : List Value).toArray s 0 0 (AM ad s.heap.size)) (F0 m 148 ls []) := by
          intro jj
          induction jj with
          | zero =>
            intro t9 f g H locs ls hj hB hG hN hR hP hD hS hl
            refine lv_iload hx hb d_Mo_divide_NNN_148 (lv_at hl 0 rfl) ?_
            refine lv_if_lt (tgt := 266) hx hb d_Mo_divide_NNN_150 (by decide) (fun c150 => ?_) (fun c150 => ?_)
            · skip
              have ej : t9 = mq + 1 := by omega
              subst ej
              rw [Nat.pow_zero, Nat.mul_one, Nat.zero_add] at hN hR
              exact fin f g H locs ls hB hG hN hR hP hD hS (lv_sub hl [1, 2, 3, 4, 5, 6, 7] rfl)
            · exact absurd dn_0 c150
          | succ j ih =>
            intro t9 f g H locs ls hj hB hG hN hR hP hD hS hl
            refine lv_iload hx hb d_Mo_divide_NNN_148 (lv_at hl 0 rfl) ?_
            refine lv_if_lt (tgt := 266) hx hb d_Mo_divide_NNN_150 (by decide) (fun c150 => ?_) (fun c150 => ?_)
            · exact absurd c150 (nI_pos (by omega))
            · skip
              obtain ⟨X, hX⟩ : ∃ X, X = uV f j (nd + 1) := ⟨_, rfl⟩
              have hXq : X / (u * 2 ^ sf) < 1073741824 := by rw [hX]; exact dv_X hR
              have hg0 : X / (u * 2 ^ sf) ≤ (f (j + nd) * 1073741824 + f (j + nd - 1)) / mW w5 14 (nd - 1) := by rw [hX, ← hDv]; exact dg_ge hB (h35 14) hnd1 hdt
              have done : ∀ (x9 : Nat) (f9 : Nat → Nat) (H : Heap) (locs : List Loc) (ls : Array Slot), x9 < 1073741824 → x9 = X / (u * 2 ^ sf) → B3 f9 → uV f9 j (nd + 1) = X % (u * 2 ^ sf) → (∀ z, (z < j ∨ j + (nd + 1) ≤ z) → f9 z = f z) → va_P D clA (NM cI cB cR ad (st (st w5 13 f9 nr) t g (mL w5 t))) H → va_D (AM ad s.heap.size) (NM cI cB cR ad (st (st w5 13 f9 nr) t g (mL w5 t))) → va_S (AM ad s.heap.size) s.heap H locs → lv_has ls 12 [(10, .long (lN (x9))), (7, .int (nI (j))), (4, .int (nI (sf))), (5, .int (nI (nd))), (6, .int (nI (mq))), (0, .ref (ad 0)), (1, .ref (ad 26)), (2, .ref (ad 34)), (3, .ref (ad (2 * t + 4)))] → W p l e (headSpec (q_Mo_divide_NNN :: wA) { frames := 3, cells := 0, slots := 0, locals := 130 }).room s m ([.ref (ad 0), .ref (ad 26), .ref (ad 34), .ref (ad (2 * t + 4))] : List Value).toArray below meth c H locs 0 0 (MQ below (va_Qv (fun w1 : Mt => eqM w w1 [t, 13, 14] ∧ NU w1 t (v / u) ∧ NU w1 13 (v % u) ∧ W3 w1) (BM D cI cB cR ad) (AM ad s.heap.size)) ([.ref (ad 0), .ref (ad 26), .ref (ad 34), .ref (ad (2 * t + 4))] : List Value).toArray s 0 0 (AM ad s.heap.size)) (F0 m 250 ls []) := by
                intro x9 f9 H locs ls hx9 hxe hB9 hw9 hk9 hP hD hS hl
                refine lv_aload_n hx hb d_Mo_divide_NNN_250 rfl (lv_at hl 8 rfl) ?_
                refine mw_gW hx hb hts hown hKW.1 hP (i := t) (by omega) lf_Mo_118 d_Mo_divide_NNN_251 ?_
                refine lv_iload hx hb d_Mo_divide_NNN_254 (lv_at hl 1 rfl) ?_
                refine lv_lload hx hb d_Mo_divide_NNN_256 (lv_at hl 0 rfl) ?_
                refine lv_l2i (v := nI (x9)) hx hb d_Mo_divide_NNN_258 (lN_i _) ?_
                refine mw_sW hx hb hKW.1 hP hD hS (i := t) (by omega) (j := j) (by omega) d_Mo_divide_NNN_259 (fun H locs hP hD hS => ?_)
                rw [st_qW, st_mW] at hP hD
                refine lv_iinc (v := dn j) (lv' := [(7, .int (dn j)), (10, .long (lN (x9))), (4, .int (nI (sf))), (5, .int (nI (nd))), (6, .int (nI (mq))), (0, .ref (ad 0)), (1, .ref (ad 26)), (2, .ref (ad 34)), (3, .ref (ad (2 * t + 4)))]) hx hb d_Mo_divide_NNN_260 hl (k := 1) rfl (dn_dec j) (by decide) rfl (fun ls hl => ?_)
                refine lv_goto (tgt := 148) hx hb d_Mo_divide_NNN_263 (by decide) ?_
                have hs := dv_step (g := g) hB hB9 hD0 hDlt hN hX hxe hw9 (fun z hz => hk9 z (Or.inl hz))
                exact ih (t9 + 1) f9 _ H locs ls (by omega) hB9 (upM_B hG hx9) hs.1 hs.2 hP hD hS (lv_sub hl [0, 2, 3, 4, 5, 6, 7, 8] rfl)
              have corr : ∀ (x9 : Nat) (f9 : Nat → Nat) (H : Heap) (locs : List Loc) (ls : Array Slot), x9 < 1073741824 → X / (u * 2 ^ sf) ≤ x9 → B3 f9 → uV f9 j (nd + 1) = X → (∀ z, (z < j ∨ j + (nd + 1) ≤ z) → f9 z = f z) → va_P D clA (NM cI cB cR ad (st (st w5 13 f9 nr) t g (mL w5 t))) H → va_D (AM ad s.heap.size) (NM cI cB cR ad (st (st w5 13 f9 nr) t g (mL w5 t))) → va_S (AM ad s.heap.size) s.heap H locs → lv_has ls 12 [(10, .long (lN (x9))), (7, .int (nI (j))), (4, .int (nI (sf))), (5, .int (nI (nd))), (6, .int (nI (mq))), (0, .ref (ad 0)), (1, .ref (ad 26)), (2, .ref (ad 34)), (3, .ref (ad (2 * t + 4)))] → W p l e (headSpec (q_Mo_divide_NNN :: wA) { frames := 3, cells := 0, slots := 0, locals := 130 }).room s m ([.ref (ad 0), .ref (ad 26), .ref (ad 34), .ref (ad (2 * t + 4))] : List Value).toArray below meth c H locs 0 0 (MQ below (va_Qv (fun w1 : Mt => eqM w w1 [t, 13, 14] ∧ NU w1 t (v / u) ∧ NU w1 13 (v % u) ∧ W3 w1) (BM D cI cB cR ad) (AM ad s.heap.size)) ([.ref (ad 0), .ref (ad 26), .ref (ad 34), .ref (ad (2 * t + 4))] : List Value).toArray s 0 0 (AM ad s.heap.size)) (F0 m 221 ls []) := by
                intro x9
                induction x9 with
                | zero =>
                  intro f9 H locs ls hx9 hxe hB9 hw9 hk9 hP hD hS hl
                  refine lv_lload hx hb d_Mo_divide_NNN_221 (lv_at hl 0 rfl) ?_
                  refine lv_lconst (v := lN (0)) hx hb d_Mo_divide_NNN_223 (by decide) ?_
                  refine W.lcmp hx hb d_Mo_divide_NNN_224 ?_
                  refine lv_if_le (tgt := 250) hx hb d_Mo_divide_NNN_225 (by decide) (fun c225 => ?_) (fun c225 => ?_)
                  · skip
                    have c225 : 0 ≤ 0 := (pk_lLE (by omega) (by omega)).mp ((lg_cmp_le _ _).mp c225)
                    have e0 : X / (u * 2 ^ sf) = 0 := Nat.eq_zero_of_le_zero hxe
                    have hXD : X < u * 2 ^ sf := by rcases Nat.div_eq_zero_iff.mp e0 with z | z; omega; exact z
                    exact done 0 f9 H locs ls (by decide) e0.symm hB9 (by rw [hw9, Nat.mod_eq_of_lt hXD]) hk9 hP hD hS (lv_sub hl [0, 1, 2, 3, 4, 5, 6, 7, 8] rfl)
                  · skip
                    have c225 : ¬ (0 ≤ 0) := fun h => c225 ((lg_cmp_le _ _).mpr ((pk_lLE (by omega) (by omega)).mpr h))
                    omega
                | succ x9 ih2 =>
                  intro f9 H locs ls hx9 hxe hB9 hw9 hk9 hP hD hS hl
                  refine lv_lload hx hb d_Mo_divide_NNN_221 (lv_at hl 0 rfl) ?_
                  refine lv_lconst (v := lN (0)) hx hb d_Mo_divide_NNN_223 (by decide) ?_
                  refine W.lcmp hx hb d_Mo_divide_NNN_224 ?_
                  refine lv_if_le (tgt := 250) hx hb d_Mo_divide_NNN_225 (by decide) (fun c225 => ?_) (fun c225 => ?_)
                  · skip
                    have c225 : x9 + 1 ≤ 0 := (pk_lLE (by omega) (by omega)).mp ((lg_cmp_le _ _).mp c225)
                    omega
                  · skip
                    have c225 : ¬ (x9 + 1 ≤ 0) := fun h => c225 ((lg_cmp_le _ _).mpr ((pk_lLE (by omega) (by omega)).mpr h))
                    refine lv_aload_n hx hb d_Mo_divide_NNN_228 rfl (lv_at hl 5 rfl) ?_
                    refine lv_lload hx hb d_Mo_divide_NNN_229 (lv_at hl 0 rfl) ?_
                    refine lv_iload hx hb d_Mo_divide_NNN_231 (lv_at hl 1 rfl) ?_
                    refine lv_iload hx hb d_Mo_divide_NNN_233 (lv_at hl 3 rfl) ?_
                    refine zV_i (As := [.long (lN (x9 + 1)), .int (nI (j)), .int (nI (nd))]) (rest := []) (n := 3) ⟨hx, hb, hml, hown, hts⟩ (c_Mo_takesTooMuch l (st (st w5 13 f9 nr) t g (mL w5 t)) _ (x := x9 + 1) (j := j) (n := nd) ((h35.st hB9).st hG) hx9 (by omega)) (cwV0 3 hts lm_Mo_125 im_Mo_takesTooMuch se_Mo_takesTooMuch in_Mo kq_Mo_takesTooMuch rfl rfl rfl (by decide +kernel) ⟨Nat.le_of_ble_eq_true rfl, Nat.le_of_ble_eq_true rfl⟩) (recMo hKW.1 hP) hKW hP hD hS rfl hl.1 rfl (Nat.le_of_ble_eq_true rfl) d_Mo_divide_NNN_235 ⟨Nat.zero_le _, Nat.zero_le _⟩ (fun r w6 H locs hp hP hD hS => ?_)
                    obtain ⟨f8, ew, hB8, hk8, hor⟩ := hp
                    have e13 : mW (st (st w5 13 f9 nr) t g (mL w5 t)) 13 = f9 := by rw [st_mWn _ _ _ (by omega), st_mW]
                    have e14 : mW (st (st w5 13 f9 nr) t g (mL w5 t)) 14 = mW w5 14 := by rw [st_mWn _ _ _ (by omega), st_mWn _ _ _ (by omega)]
                    have l13 : mL (st (st w5 13 f9 nr) t g (mL w5 t)) 13 = nr := by rw [st_mLn _ _ _ (by omega), st_mL]
                    rw [e13, e14, hDv, hw9] at hor
                    rw [e13] at hk8
                    rw [ew, l13, st_under (by omega)] at hP hD
                    rcases hor with ⟨er, hval⟩ | ⟨er, hlt9, hval⟩
                    · subst er
                      refine lv_if_eq (tgt := 250) hx hb d_Mo_divide_NNN_238 (by decide) (fun c238 => ?_) (fun c238 => ?_)
                      · skip
                        have hq := dv_q hD0 hxe (x := x9 + 1) (by omega)
                        exact done (x9 + 1) f8 H locs ls hx9 hq.1 hB8 (by rw [← hq.2]; omega) (fun z hz => (hk8 z hz).trans (hk9 z hz)) hP hD hS (lv_sub hl [0, 1, 2, 3, 4, 5, 6, 7, 8] rfl)
                      · skip
                        have c238 : ¬ (0 = 0) := fun h => c238 (by have := (nI_eq (by omega) (by omega)).mpr h; rwa [nI_0] at this)
                        omega
                    · subst er
                      refine lv_if_eq (tgt := 250) hx hb d_Mo_divide_NNN_238 (by decide) (fun c238 => ?_) (fun c238 => ?_)
                      · skip
                        have c238 : 1 = 0 := (nI_eq (by omega) (by omega)).mp (by first | (rw [nI_0]; exact c238) | rw [nI_0])
                        omega
                      · skip
                        have c238 : ¬ (1 = 0) := fun h => c238 (by have := (nI_eq (by omega) (by omega)).mpr h; rwa [nI_0] at this)
                        refine lv_lload hx hb d_Mo_divide_NNN_241 (lv_at hl 0 rfl) ?_
                        refine lv_lconst (v := lN (1)) hx hb d_Mo_divide_NNN_243 (by decide) ?_
                        refine nw_lsub (v := lN (x9)) hx hb d_Mo_divide_NNN_244 (lN_sub (by omega)) ?_
                        refine lv_lstore (lv' := [(10, .long (lN (x9))), (7, .int (nI (j))), (4, .int (nI (sf))), (5, .int (nI (nd))), (6, .int (nI (mq))), (0, .ref (ad 0)), (1, .ref (ad 26)), (2, .ref (ad 34)), (3, .ref (ad (2 * t + 4)))]) hx hb d_Mo_divide_NNN_245 hl (by decide) rfl (fun ls hl => ?_)
                        refine lv_goto (tgt := 221) hx hb d_Mo_divide_NNN_247 (by decide) ?_
                        have hx8 : X / (u * 2 ^ sf) < x9 + 1 := (Nat.div_lt_iff_lt_mul hD0).mpr hlt9
                        exact ih2 f8 H locs ls (by omega) (by omega) hB8 hval (fun z hz => (hk8 z hz).trans (hk9 z hz)) hP hD hS (lv_sub hl [0, 1, 2, 3, 4, 5, 6, 7, 8] rfl)
              have hf9 := hB (j + nd)
              have hf8 := hB (j + nd - 1)
              have hd9 := h35 14 (nd - 1)
              refine lv_aload_n hx hb d_Mo_divide_NNN_153 rfl (lv_at hl 4 rfl) ?_
              refine mw_gF4 hx hb hts hown hKW.1 hP lf_Mo_28 d_Mo_divide_NNN_154 ?_
              refine mw_gW hx hb hts hown hKW.1 hP (i := 13) (by omega) lf_Mo_118 d_Mo_divide_NNN_157 ?_
              refine lv_iload hx hb d_Mo_divide_NNN_160 (lv_at hl 0 rfl) ?_
              refine lv_iload hx hb d_Mo_divide_NNN_162 (lv_at hl 2 rfl) ?_
              refine nw_iadd (v := nI (j + nd)) hx hb d_Mo_divide_NNN_164 (nI_add _ _) ?_
              refine mw_lW hx hb hKW.1 hP (i := 13) (by omega) (j := j + nd) (by omega) (x := f (j + nd)) (by rw [st_mWn _ _ _ (by omega), st_mW]) d_Mo_divide_NNN_165 ?_
              refine lv_i2l (v := lN (f (j + nd))) hx hb d_Mo_divide_NNN_166 (nI_l (by omega)) ?_
              refine lv_bipush (v := nI (30)) hx hb d_Mo_divide_NNN_167 (by decide) ?_
              refine lv_lshl (v := lN ((f (j + nd)) * 1073741824)) hx hb d_Mo_divide_NNN_169 (lN_shl _ (by decide)) ?_
              refine lv_aload_n hx hb d_Mo_divide_NNN_170 rfl (lv_at hl 4 rfl) ?_
              refine mw_gF4 hx hb hts hown hKW.1 hP lf_Mo_28 d_Mo_divide_NNN_171 ?_
              refine mw_gW hx hb hts hown hKW.1 hP (i := 13) (by omega) lf_Mo_118 d_Mo_divide_NNN_174 ?_
              refine lv_iload hx hb d_Mo_divide_NNN_177 (lv_at hl 0 rfl) ?_
              refine lv_iload hx hb d_Mo_divide_NNN_179 (lv_at hl 2 rfl) ?_
              refine nw_iadd (v := nI (j + nd)) hx hb d_Mo_divide_NNN_181 (nI_add _ _) ?_
              refine lv_iconst (v := nI (1)) hx hb d_Mo_divide_NNN_182 (by decide) ?_
              refine nw_isub (v := nI (j + nd - 1)) hx hb d_Mo_divide_NNN_183 (pk_sub (by omega)) ?_
              refine mw_lW hx hb hKW.1 hP (i := 13) (by omega) (j := j + nd - 1) (by omega) (x := f (j + nd - 1)) (by rw [st_mWn _ _ _ (by omega), st_mW]) d_Mo_divide_NNN_184 ?_
              refine lv_i2l (v := lN (f (j + nd - 1))) hx hb d_Mo_divide_NNN_185 (nI_l (by omega)) ?_
              refine nw_lor (v := lN (f (j + nd) * 1073741824 + f (j + nd - 1))) hx hb d_Mo_divide_NNN_186 (lN_orA (by omega) (by omega)) ?_
              refine lv_lstore (lv' := [(8, .long (lN (f (j + nd) * 1073741824 + f (j + nd - 1)))), (7, .int (nI (j))), (4, .int (nI (sf))), (5, .int (nI (nd))), (6, .int (nI (mq))), (0, .ref (ad 0)), (1, .ref (ad 26)), (2, .ref (ad 34)), (3, .ref (ad (2 * t + 4)))]) hx hb d_Mo_divide_NNN_187 hl (by decide) rfl (fun ls hl => ?_)
              refine lv_lload hx hb d_Mo_divide_NNN_189 (lv_at hl 0 rfl) ?_
              refine lv_aload_n hx hb d_Mo_divide_NNN_191 rfl (lv_at hl 5 rfl) ?_
              refine mw_gF5 hx hb hts hown hKW.1 hP lf_Mo_31 d_Mo_divide_NNN_192 ?_
              refine mw_gW hx hb hts hown hKW.1 hP (i := 14) (by omega) lf_Mo_118 d_Mo_divide_NNN_195 ?_
              refine lv_iload hx hb d_Mo_divide_NNN_198 (lv_at hl 3 rfl) ?_
              refine lv_iconst (v := nI (1)) hx hb d_Mo_divide_NNN_200 (by decide) ?_
              refine nw_isub (v := nI (nd - 1)) hx hb d_Mo_divide_NNN_201 (pk_sub (by omega)) ?_
              refine mw_lW hx hb hKW.1 hP (i := 14) (by omega) (j := nd - 1) (by omega) (x := mW w5 14 (nd - 1)) (by rw [st_mWn _ _ _ (by omega), st_mWn _ _ _ (by omega)]) d_Mo_divide_NNN_202 ?_
              refine lv_i2l (v := lN (mW w5 14 (nd - 1))) hx hb d_Mo_divide_NNN_203 (nI_l (by omega)) ?_
              refine nw_ldiv (v := lN ((f (j + nd) * 1073741824 + f (j + nd - 1)) / (mW w5 14 (nd - 1)))) hx hb d_Mo_divide_NNN_204 (lN_ne0 (by omega) (by omega)) (lN_div (by omega) (by omega)) ?_
              refine lv_lstore (lv' := [(10, .long (lN ((f (j + nd) * 1073741824 + f (j + nd - 1)) / (mW w5 14 (nd - 1))))), (8, .long (lN (f (j + nd) * 1073741824 + f (j + nd - 1)))), (7, .int (nI (j))), (4, .int (nI (sf))), (5, .int (nI (nd))), (6, .int (nI (mq))), (0, .ref (ad 0)), (1, .ref (ad 26)), (2, .ref (ad 34)), (3, .ref (ad (2 * t + 4)))]) hx hb d_Mo_divide_NNN_205 hl (by decide) rfl (fun ls hl => ?_)
              refine lv_lload hx hb d_Mo_divide_NNN_207 (lv_at hl 0 rfl) ?_
              have hq63 : (f (j + nd) * 1073741824 + f (j + nd - 1)) / mW w5 14 (nd - 1) ≤ f (j + nd) * 1073741824 + f (j + nd - 1) := Nat.div_le_self _ _
              refine lv_ldc2 (v := lN 1073741823) hx hb hown (hA_ hts ll_Mo_123) d_Mo_divide_NNN_209 ?_
              refine W.lcmp hx hb d_Mo_divide_NNN_212 ?_
              refine lv_if_le (tgt := 221) hx hb d_Mo_divide_NNN_213 (by decide) (fun c213 => ?_) (fun c213 => ?_)
              · skip
                have c213 : (f (j + nd) * 1073741824 + f (j + nd - 1)) / (mW w5 14 (nd - 1)) ≤ 1073741823 := (pk_lLE (by omega) (by omega)).mp ((lg_cmp_le _ _).mp c213)
                exact corr _ f H locs ls (by omega) hg0 hB hX.symm (fun _ _ => rfl) hP hD hS (lv_sub hl [0, 2, 3, 4, 5, 6, 7, 8, 9] rfl)
              · skip
                have c213 : ¬ ((f (j + nd) * 1073741824 + f (j + nd - 1)) / (mW w5 14 (nd - 1)) ≤ 1073741823) := fun h => c213 ((lg_cmp_le _ _).mpr ((pk_lLE (by omega) (by omega)).mpr h))
                refine lv_ldc2 (v := lN 1073741823) hx hb hown (hA_ hts ll_Mo_123) d_Mo_divide_NNN_216 ?_
                refine lv_lstore (lv' := [(10, .long (lN (1073741823))), (8, .long (lN (f (j + nd) * 1073741824 + f (j + nd - 1)))), (7, .int (nI (j))), (4, .int (nI (sf))), (5, .int (nI (nd))), (6, .int (nI (mq))), (0, .ref (ad 0)), (1, .ref (ad 26)), (2, .ref (ad 34)), (3, .ref (ad (2 * t + 4)))]) hx hb d_Mo_divide_NNN_219 hl (by decide) rfl (fun ls hl => ?_)
                exact corr 1073741823 f H locs ls (by omega) (by omega) hB hX.symm (fun _ _ => rfl) hP hD hS (lv_sub hl [0, 2, 3, 4, 5, 6, 7, 8, 9] rfl)
        refine lv_iconst (v := nI (0)) hx hb d_Mo_divide_NNN_120 (by decide) ?_
        refine lv_istore (lv' := [(7, .int (nI (0))), (6, .int (nI (mq))), (5, .int (nI (nd))), (4, .int (nI (sf))), (0, .ref (ad 0)), (1, .ref (ad 26)), (2, .ref (ad 34)), (3, .ref (ad (2 * t + 4)))]) hx hb d_Mo_divide_NNN_121 hl (by decide) rfl (fun ls hl => ?_)
        have zl : ∀ (q z : Nat) (g : Nat → Nat) (H : Heap) (locs : List Loc) (ls : Array Slot), z + q = mq + 1 → B3 g → va_P D clA (NM cI cB cR ad (st w5 t g (mL w5 t))) H → va_D (AM ad s.heap.size) (NM cI cB cR ad (st w5 t g (mL w5 t))) → va_S (AM ad s.heap.size) s.heap H locs → lv_has ls 12 [(7, .int (nI (z))), (4, .int (nI (sf))), (5, .int (nI (nd))), (6, .int (nI (mq))), (0, .ref (ad 0)), (1, .ref (ad 26)), (2, .ref (ad 34)), (3, .ref (ad (2 * t + 4)))] → W p l e (headSpec (q_Mo_divide_NNN :: wA) { frames := 3, cells := 0, slots := 0, locals := 130 }).room s m ([.ref (ad 0), .ref (ad 26), .ref (ad 34), .ref (ad (2 * t + 4))] : List Value).toArray below meth c H locs 0 0 (MQ below (va_Qv (fun w1 : Mt => eqM w w1 [t, 13, 14] ∧ NU w1 t (v / u) ∧ NU w1 13 (v % u) ∧ W3 w1) (BM D cI cB cR ad) (AM ad s.heap.size)) ([.ref (ad 0), .ref (ad 26), .ref (ad 34), .ref (ad (2 * t + 4))] : List Value).toArray s 0 0 (AM ad s.heap.size)) (F0 m 123 ls []) := by
          intro q
          induction q with
          | zero =>
            intro z g H locs ls hj hG hP hD hS hl
            refine lv_iload hx hb d_Mo_divide_NNN_123 (lv_at hl 0 rfl) ?_
            refine lv_iload hx hb d_Mo_divide_NNN_125 (lv_at hl 3 rfl) ?_
            refine lv_icmp_gt (tgt := 144) hx hb d_Mo_divide_NNN_127 (by decide) (fun c127 => ?_) (fun c127 => ?_)
            · skip
              have c127 : mq < z := (nI_ltI (by omega) (by omega)).mp c127
              refine lv_iload hx hb d_Mo_divide_NNN_144 (lv_at hl 3 rfl) ?_
              refine lv_istore (lv' := [(7, .int (nI (mq))), (4, .int (nI (sf))), (5, .int (nI (nd))), (6, .int (nI (mq))), (0, .ref (ad 0)), (1, .ref (ad 26)), (2, .ref (ad 34)), (3, .ref (ad (2 * t + 4)))]) hx hb d_Mo_divide_NNN_146 hl (by decide) rfl (fun ls hl => ?_)
              have e5 : st w5 13 (mW w5 13) nr = w5 := by rw [← l13]; exact st_self
              exact main (mq + 1) 0 (mW w5 13) g H locs ls (by omega) (h35 13) hG (by rw [uV_0, Nat.zero_mul, Nat.zero_mul, Nat.zero_add, hNv]) hNlt (by rw [e5]; exact hP) (by rw [e5]; exact hD) hS (lv_sub hl [0, 1, 2, 3, 4, 5, 6, 7] rfl)
            · skip
              have c127 : ¬ (mq < z) := fun h => c127 ((nI_ltI (by omega) (by omega)).mpr h)
              omega
          | succ q ih =>
            intro z g H locs ls hj hG hP hD hS hl
            refine lv_iload hx hb d_Mo_divide_NNN_123 (lv_at hl 0 rfl) ?_
            refine lv_iload hx hb d_Mo_divide_NNN_125 (lv_at hl 3 rfl) ?_
            refine lv_icmp_gt (tgt := 144) hx hb d_Mo_divide_NNN_127 (by decide) (fun c127 => ?_) (fun c127 => ?_)
            · skip
              have c127 : mq < z := (nI_ltI (by omega) (by omega)).mp c127
              omega
            · skip
              have c127 : ¬ (mq < z) := fun h => c127 ((nI_ltI (by omega) (by omega)).mpr h)
              refine lv_aload_n hx hb d_Mo_divide_NNN_130 rfl (lv_at hl 7 rfl) ?_
              refine mw_gW hx hb hts hown hKW.1 hP (i := t) (by omega) lf_Mo_118 d_Mo_divide_NNN_131 ?_
              refine lv_iload hx hb d_Mo_divide_NNN_134 (lv_at hl 0 rfl) ?_
              refine lv_iconst (v := nI (0)) hx hb d_Mo_divide_NNN_136 (by decide) ?_
              refine mw_sW hx hb hKW.1 hP hD hS (i := t) (by omega) (j := z) (by omega) d_Mo_divide_NNN_137 (fun H locs hP hD hS => ?_)
              rw [st_qW, st_mW] at hP hD
              refine lv_iinc (v := nI (z + 1)) (lv' := [(7, .int (nI (z + 1))), (4, .int (nI (sf))), (5, .int (nI (nd))), (6, .int (nI (mq))), (0, .ref (ad 0)), (1, .ref (ad 26)), (2, .ref (ad 34)), (3, .ref (ad (2 * t + 4)))]) hx hb d_Mo_divide_NNN_138 hl (k := 0) rfl (nI_add _ 1) (by decide) rfl (fun ls hl => ?_)
              refine lv_goto (tgt := 123) hx hb d_Mo_divide_NNN_141 (by decide) ?_
              exact ih (z + 1) _ H locs ls (by omega) (upM_B hG (by decide)) hP hD hS (lv_sub hl [0, 1, 2, 3, 4, 5, 6, 7] rfl)
        exact zl (mq + 1) 0 _ _ _ ls (by omega) (h35 t) (by rw [st_self]; exact hP) (by rw [st_self]; exact hD) hS (lv_sub hl [0, 3, 2, 1, 4, 5, 6, 7] rfl)
      · skip
        have c86 : ¬ (0 ≤ mq) := fun h => c86 (by have := (nI_leI (by omega) (by omega)).mpr h; rwa [nI_0] at this)
        omega
  refine lv_iconst (v := nI (0)) hx hb d_Mo_divide_NNN_0 (by decide) ?_
  refine lv_istore (lv' := [(4, .int (nI (0))), (0, .ref (ad 0)), (1, .ref (ad 26)), (2, .ref (ad 34)), (3, .ref (ad (2 * t + 4)))]) hx hb d_Mo_divide_NNN_1 hl (by decide) rfl (fun ls hl => ?_)
  have hyt : mW w 15 (mL w 15 - 1) ≠ 0 := by rcases hu.2.1 with z | z; exact absurd z hlu0; exact z
  have hyt9 := h3 15 (mL w 15 - 1)
  have loop : ∀ (q sf : Nat) (ls : Array Slot), sf + q = 30 → mW w 15 (mL w 15 - 1) * 2 ^ sf < 1073741824 → lv_has ls 12 [(4, .int (nI (sf))), (0, .ref (ad 0)), (1, .ref (ad 26)), (2, .ref (ad 34)), (3, .ref (ad (2 * t + 4)))] → W p l e (headSpec (q_Mo_divide_NNN :: wA) { frames := 3, cells := 0, slots := 0, locals := 130 }).room s m ([.ref (ad 0), .ref (ad 26), .ref (ad 34), .ref (ad (2 * t + 4))] : List Value).toArray below meth c s.heap [] 0 0 (MQ below (va_Qv (fun w1 : Mt => eqM w w1 [t, 13, 14] ∧ NU w1 t (v / u) ∧ NU w1 13 (v % u) ∧ W3 w1) (BM D cI cB cR ad) (AM ad s.heap.size)) ([.ref (ad 0), .ref (ad 26), .ref (ad 34), .ref (ad (2 * t + 4))] : List Value).toArray s 0 0 (AM ad s.heap.size)) (F0 m 3 ls []) := by
    intro q
    induction q with
    | zero =>
      intro sf ls hq h30 hl
      rw [show sf = 30 by omega] at h30
      omega
    | succ q ih =>
      intro sf ls hq h30 hl
      refine lv_aload_n hx hb d_Mo_divide_NNN_3 rfl (lv_at hl 3 rfl) ?_
      refine mw_gW hx hb hts hown hKW.1 hP (i := 15) (by omega) lf_Mo_118 d_Mo_divide_NNN_4 ?_
      refine lv_aload_n hx hb d_Mo_divide_NNN_7 rfl (lv_at hl 3 rfl) ?_
      refine mw_gL hx hb hts hown hKW.1 hP (i := 15) (by omega) (n := mL w 15) rfl lf_Mo_89 d_Mo_divide_NNN_8 ?_
      refine lv_iconst (v := nI (1)) hx hb d_Mo_divide_NNN_11 (by decide) ?_
      refine nw_isub (v := nI (mL w 15 - 1)) hx hb d_Mo_divide_NNN_12 (pk_sub (by omega)) ?_
      refine mw_lW hx hb hKW.1 hP (i := 15) (by omega) (j := mL w 15 - 1) (by omega) (x := mW w 15 (mL w 15 - 1)) rfl d_Mo_divide_NNN_13 ?_
      refine lv_iload hx hb d_Mo_divide_NNN_14 (lv_at hl 0 rfl) ?_
      refine nw_ishl (v := nI ((mW w 15 (mL w 15 - 1)) * 2 ^ sf)) hx hb d_Mo_divide_NNN_16 (nI_shl (by omega)) ?_
      refine lv_ldc (v := 536870912) hx hb hown (hA_ hts lk_Mo_122) d_Mo_divide_NNN_17 ?_
      refine nw_iand (v := (nI ((mW w 15 (mL w 15 - 1)) * 2 ^ sf)) &&& 536870912) hx hb d_Mo_divide_NNN_19 rfl ?_
      refine lv_if_ne (tgt := 29) hx hb d_Mo_divide_NNN_20 (by decide) (fun c20 => ?_) (fun c20 => ?_)
      · exact tail sf ls (by omega) (lv_sub hl [0, 1, 2, 3, 4] rfl)
      · skip
        have h29 := dv_sh h30 c20
        refine lv_iinc (v := nI (sf + 1)) (lv' := [(4, .int (nI (sf + 1))), (0, .ref (ad 0)), (1, .ref (ad 26)), (2, .ref (ad 34)), (3, .ref (ad (2 * t + 4)))]) hx hb d_Mo_divide_NNN_23 hl (k := 0) rfl (nI_add _ 1) (by decide) rfl (fun ls hl => ?_)
        refine lv_goto (tgt := 3) hx hb d_Mo_divide_NNN_26 (by decide) ?_
        exact ih (sf + 1) ls (by omega) (by rw [Nat.pow_succ, ← Nat.mul_assoc]; omega) (lv_sub hl [0, 1, 2, 3, 4] rfl)
  exact loop 30 0 ls (by omega) (by rw [Nat.pow_zero, Nat.mul_one]; exact hyt9) (lv_sub hl [0, 1, 2, 3, 4] rfl)

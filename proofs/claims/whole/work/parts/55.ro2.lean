/-! ROOTS: putRoot (rows laid by wip/whole/gen/c_ro2.py) -/
set_option maxHeartbeats 4000000 in
set_option maxRecDepth 100000 in
/-- putRoot(root, a, n, bench) -/
theorem c_Ro_putRoot (l : Launch) {D : va_G} {cI cB cR : ClassId} {ad : Nat → Nat} (w : St) (sz : Nat) {i a v n : Nat} (hi : i < 11) (ha : a < 11) (hia : a ≠ i) (hv : NV w a v) (hn1 : 1 ≤ n) (hn : n ≤ 40) (hb9 : nb v ≤ 200000) : Met l y_Ro_putRoot (q_Ro_putRoot :: wA) { frames := 97, cells := 0, slots := 0, locals := 3700 } (va_Pc [.ref (ad 4), .ref (ad (2 * i + 8)), .ref (ad (2 * a + 8)), .int (nI (n)), .ref (ad 2)] (PW D cI cB cR ad w sz)) (va_Qv (fun w1 : St => eqB w w1 [i, 11, 12, 13] ∧ ∃ r : Nat, NV w1 i r ∧ isRoot v n r) (BW D cI cB cR ad) (AA ad sz)) 0 0 (AA ad sz) := by
  refine Met.ofW (cc := b_Ro_putRoot) (maxL := 10) (ret := none) (by decide) rfl ?_
  intro p e s m args below meth c s₁ B hml hv
  obtain ⟨rfl, hsz, hP, hD0, hKW⟩ := hv
  have hx := B.exec
  have hb := B.bytes
  have hr := B.returns
  have hts := atoms_spec (ws := q_Ro_putRoot :: wA) B.pre
  have hown : s.vm.findClass R_Ro = some m.cls := findClass_of_methodNamed B.named
  have hlocks := B.notSynchronized
  subst hsz
  have hD := NC_AA (sz := s.heap.size) hD0
  have hS : va_S (AA ad s.heap.size) s.heap s.heap [] := va_S.rf
  have hl := lv_entry ([.ref (ad 4), .ref (ad (2 * i + 8)), .ref (ad (2 * a + 8)), .int (nI (n)), .ref (ad 2)]) (n := 10) (Nat.le_of_ble_eq_true rfl)
  rw [lg_entry_eq]
  generalize (lg_sl ([.ref (ad 4), .ref (ad (2 * i + 8)), .ref (ad (2 * a + 8)), .int (nI (n)), .ref (ad 2)]) ++ List.replicate (10 - (lg_sl ([.ref (ad 4), .ref (ad (2 * i + 8)), .ref (ad (2 * a + 8)), .int (nI (n)), .ref (ad 2)])).length) Slot.unset).toArray = ls at hl ⊢
  have hl : lv_has ls 10 [(0, .ref (ad 4)), (1, .ref (ad (2 * i + 8))), (2, .ref (ad (2 * a + 8))), (3, .int (nI (n))), (4, .ref (ad 2))] := hl
  refine lv_aload_n hx hb d_Ro_putRoot_0 rfl (lv_at hl 2 rfl) ?_
  refine wV_i (As := []) (rest := []) (n := 0) ⟨hx, hb, hml, hown, hts⟩ (c_Na_countBits l w _ (i := a) (by omega) hv) (cwV0 0 hts lm_Ro_22 im_Na_countBits se_Na_countBits in_Na kq_Na_countBits rfl rfl rfl (by decide +kernel) ⟨Nat.le_of_ble_eq_true rfl, Nat.le_of_ble_eq_true rfl⟩) (recvN hKW.1 hP (i := a) (by omega)) hKW hP hD hS rfl hl.1 rfl (Nat.le_of_ble_eq_true rfl) d_Ro_putRoot_1 ⟨Nat.zero_le _, Nat.zero_le _⟩ (fun r w1 H locs hp hP hD hS => ?_)
  obtain ⟨er, ew⟩ := hp
  rw [ew] at hP hD
  subst er
  refine lv_istore (lv' := [(5, .int (nI (nb v))), (0, .ref (ad 4)), (1, .ref (ad (2 * i + 8))), (2, .ref (ad (2 * a + 8))), (3, .int (nI (n))), (4, .ref (ad 2))]) hx hb d_Ro_putRoot_4 hl (by decide) rfl (fun ls hl => ?_)
  refine lv_iload_n hx hb d_Ro_putRoot_6 rfl (lv_at hl 4 rfl) ?_
  refine lv_iconst (v := nI (1)) hx hb d_Ro_putRoot_7 (by decide) ?_
  refine lv_icmp_eq (tgt := 16) hx hb d_Ro_putRoot_8 (by decide) (fun c8 => ?_) (fun c8 => ?_)
  · skip
    have c8 : n = 1 := (nI_eq (by omega) (by omega)).mp c8
    refine lv_aload_n hx hb d_Ro_putRoot_16 rfl (lv_at hl 2 rfl) ?_
    refine lv_aload_n hx hb d_Ro_putRoot_17 rfl (lv_at hl 3 rfl) ?_
    refine wV_v (As := [.ref (ad (2 * a + 8))]) (rest := []) (n := 1) ⟨hx, hb, hml, hown, hts⟩ (c_Na_putSame l w _ (i := i) (a := a) (by omega) (by omega) hv) (cwV0 1 hts lm_Ro_26 im_Na_putSame se_Na_putSame in_Na kq_Na_putSame rfl rfl rfl (by decide +kernel) ⟨Nat.le_of_ble_eq_true rfl, Nat.le_of_ble_eq_true rfl⟩) (recvN hKW.1 hP (i := i) (by omega)) hKW hP hD hS rfl hl.1 rfl (Nat.le_of_ble_eq_true rfl) d_Ro_putRoot_18 ⟨Nat.zero_le _, Nat.zero_le _⟩ (fun w1 H locs hp hP hD hS => ?_)
    obtain ⟨hE1, hV1⟩ := hp
    exact W.vret hx hb hr (fun t ht hW => ⟨⟨w1, rfl, ⟨hE1.B (List.mem_cons_self ..), v, hV1, c8 ▸ root_one v⟩, BW_of ht hP⟩, hS.F ht⟩) hS.2.2 d_Ro_putRoot_21
  · skip
    have c8 : ¬ (n = 1) := fun h => c8 ((nI_eq (by omega) (by omega)).mpr h)
    refine lv_iload hx hb d_Ro_putRoot_11 (lv_at hl 0 rfl) ?_
    refine lv_if_ne (tgt := 22) hx hb d_Ro_putRoot_13 (by decide) (fun c13 => ?_) (fun c13 => ?_)
    · skip
      have c13 : ¬ (nb v = 0) := fun h => c13 (by have := (nI_eq (by omega) (by omega)).mpr h; rwa [nI_0] at this)
      have hv0 : v ≠ 0 := fun q => c13 (by rw [q]; rfl)
      have hp1 := nb_pos hv0
      refine lv_iload hx hb d_Ro_putRoot_22 (lv_at hl 0 rfl) ?_
      refine lv_iload_n hx hb d_Ro_putRoot_24 rfl (lv_at hl 4 rfl) ?_
      refine nw_iadd (v := nI (nb v + n)) hx hb d_Ro_putRoot_25 (nI_add _ _) ?_
      refine lv_iconst (v := nI (1)) hx hb d_Ro_putRoot_26 (by decide) ?_
      refine nw_isub (v := nI (nb v + n - 1)) hx hb d_Ro_putRoot_27 (pk_sub (by omega)) ?_
      refine lv_iload_n hx hb d_Ro_putRoot_28 rfl (lv_at hl 4 rfl) ?_
      refine nw_idiv (v := nI ((nb v + n - 1) / n)) hx hb d_Ro_putRoot_29 (nI_ne0 (by omega) (by omega)) (pk_div (by omega) (by omega) (by omega)) ?_
      obtain ⟨al, hal⟩ : ∃ al, al = (nb v + n - 1) / n := ⟨_, rfl⟩
      obtain ⟨ha1, ha2, ha3⟩ := ceil_div hn1 hp1 hal
      have hini := rt_init hn1 hv0 hal
      have haln : al ≤ nb v + n := by rw [hal]; exact Nat.le_trans (Nat.div_le_self _ _) (by omega)
      rw [← hal]
      clear hal
      have han : al * n ≤ 200100 := by
        have e : (al - 1) * n + n = al * n := by rw [← Nat.add_one_mul]; congr 1; omega
        omega
      refine lv_istore (lv' := [(6, .int (nI (al))), (5, .int (nI (nb v))), (0, .ref (ad 4)), (1, .ref (ad (2 * i + 8))), (2, .ref (ad (2 * a + 8))), (3, .int (nI (n))), (4, .ref (ad 2))]) hx hb d_Ro_putRoot_30 hl (by decide) rfl (fun ls hl => ?_)
      refine lv_iconst (v := nI (1)) hx hb d_Ro_putRoot_32 (by decide) ?_
      refine lv_istore (lv' := [(7, .int (nI (1))), (6, .int (nI (al))), (5, .int (nI (nb v))), (0, .ref (ad 4)), (1, .ref (ad (2 * i + 8))), (2, .ref (ad (2 * a + 8))), (3, .int (nI (n))), (4, .ref (ad 2))]) hx hb d_Ro_putRoot_33 hl (by decide) rfl (fun ls hl => ?_)
      refine lv_aload_n hx hb d_Ro_putRoot_35 rfl (lv_at hl 4 rfl) ?_
      refine lv_lconst (v := lN (1)) hx hb d_Ro_putRoot_36 (by decide) ?_
      refine wV_v (As := [.long (lN (1))]) (rest := []) (n := 1) ⟨hx, hb, hml, hown, hts⟩ (c_Na_putLong l w _ (i := i) (by omega) (lN 1)) (cwV0 1 hts lm_Ro_30 im_Na_putLong se_Na_putLong in_Na kq_Na_putLong rfl rfl rfl (by decide +kernel) ⟨Nat.le_of_ble_eq_true rfl, Nat.le_of_ble_eq_true rfl⟩) (recvN hKW.1 hP (i := i) (by omega)) hKW hP hD hS rfl hl.1 rfl (Nat.le_of_ble_eq_true rfl) d_Ro_putRoot_37 ⟨Nat.zero_le _, Nat.zero_le _⟩ (fun w1 H locs hp hP hD hS => ?_)
      obtain ⟨hE1, hV1⟩ := hp
      refine lv_aload_n hx hb d_Ro_putRoot_40 rfl (lv_at hl 3 rfl) ?_
      refine nw_gO0 hx hb hts hown hKW.1 hP lf_Ro_10 d_Ro_putRoot_41 ?_
      refine lv_lconst (v := lN (1)) hx hb d_Ro_putRoot_44 (by decide) ?_
      refine wV_v (As := [.long (lN (1))]) (rest := []) (n := 1) ⟨hx, hb, hml, hown, hts⟩ (c_Na_putLong l w1 _ (i := 11) (by omega) (lN 1)) (cwV0 1 hts lm_Ro_30 im_Na_putLong se_Na_putLong in_Na kq_Na_putLong rfl rfl rfl (by decide +kernel) ⟨Nat.le_of_ble_eq_true rfl, Nat.le_of_ble_eq_true rfl⟩) (recvN hKW.1 hP (i := 11) (by omega)) hKW hP hD hS rfl hl.1 rfl (Nat.le_of_ble_eq_true rfl) d_Ro_putRoot_45 ⟨Nat.zero_le _, Nat.zero_le _⟩ (fun w2 H locs hp hP hD hS => ?_)
      obtain ⟨hE2, hV2⟩ := hp
      refine lv_aload_n hx hb d_Ro_putRoot_48 rfl (lv_at hl 3 rfl) ?_
      refine nw_gO1 hx hb hts hown hKW.1 hP lf_Ro_16 d_Ro_putRoot_49 ?_
      refine lv_lconst (v := lN (1)) hx hb d_Ro_putRoot_52 (by decide) ?_
      refine wV_v (As := [.long (lN (1))]) (rest := []) (n := 1) ⟨hx, hb, hml, hown, hts⟩ (c_Na_putLong l w2 _ (i := 12) (by omega) (lN 1)) (cwV0 1 hts lm_Ro_30 im_Na_putLong se_Na_putLong in_Na kq_Na_putLong rfl rfl rfl (by decide +kernel) ⟨Nat.le_of_ble_eq_true rfl, Nat.le_of_ble_eq_true rfl⟩) (recvN hKW.1 hP (i := 12) (by omega)) hKW hP hD hS rfl hl.1 rfl (Nat.le_of_ble_eq_true rfl) d_Ro_putRoot_53 ⟨Nat.zero_le _, Nat.zero_le _⟩ (fun w3 H locs hp hP hD hS => ?_)
      obtain ⟨hE3, hV3⟩ := hp
      have hE03 : eqB w w3 [i, 11, 12, 13] := ((hE1.B (p := [i, 11, 12, 13]) (by simp)).trans (hE2.B (p := [i, 11, 12, 13]) (by simp))).trans (hE3.B (p := [i, 11, 12, 13]) (by simp))
      have hVi : NV w3 i 1 := hE3.nv (by omega) (hE2.nv (by omega) hV1)
      have hVl : NV w3 11 1 := hE3.nv (by omega) hV2
      have loop : ∀ (mm kn r9 : Nat) (w2 : St) (H : Heap) (locs : List Loc) (ls : Array Slot), al ≤ kn + mm → 1 ≤ kn → kn ≤ al → eqB w w2 [i, 11, 12, 13] → NV w2 i r9 → NV w2 11 (r9 ^ (n - 1)) → NV w2 12 (r9 ^ n) → isRoot (v / 2 ^ ((al - kn) * n)) n r9 → 2 ^ (kn - 1) ≤ r9 → r9 < 2 ^ kn → va_P D clA (NC cI cB cR ad (w2)) H → va_D (AA ad s.heap.size) (NC cI cB cR ad (w2)) → va_S (AA ad s.heap.size) s.heap H locs → lv_has ls 10 [(7, .int (nI (kn))), (6, .int (nI (al))), (5, .int (nI (nb v))), (0, .ref (ad 4)), (1, .ref (ad (2 * i + 8))), (2, .ref (ad (2 * a + 8))), (3, .int (nI (n))), (4, .ref (ad 2))] → W p l e (headSpec (q_Ro_putRoot :: wA) { frames := 97, cells := 0, slots := 0, locals := 3700 }).room s m ([.ref (ad 4), .ref (ad (2 * i + 8)), .ref (ad (2 * a + 8)), .int (nI (n)), .ref (ad 2)] : List Value).toArray below meth c H locs 0 0 (MQ below (va_Qv (fun w1 : St => eqB w w1 [i, 11, 12, 13] ∧ ∃ r : Nat, NV w1 i r ∧ isRoot v n r) (BW D cI cB cR ad) (AA ad s.heap.size)) ([.ref (ad 4), .ref (ad (2 * i + 8)), .ref (ad (2 * a + 8)), .int (nI (n)), .ref (ad 2)] : List Value).toArray s 0 0 (AA ad s.heap.size)) (F0 m 56 ls []) := by
        intro mm
        induction mm with
        | zero =>
          intro kn r9 w2 H locs ls hal hk1 hka hE hR hL hW hroot hlo hhi hP hD hS hl
          refine lv_iload hx hb d_Ro_putRoot_56 (lv_at hl 0 rfl) ?_
          refine lv_iload hx hb d_Ro_putRoot_58 (lv_at hl 1 rfl) ?_
          refine lv_icmp_ge (tgt := 157) hx hb d_Ro_putRoot_60 (by decide) (fun c60 => ?_) (fun c60 => ?_)
          · skip
            have c60 : al ≤ kn := (nI_leI (by omega) (by omega)).mp c60
            rw [show al - kn = 0 by omega, Nat.zero_mul, Nat.pow_zero, Nat.div_one] at hroot
            exact W.vret hx hb hr (fun t ht hW => ⟨⟨w2, rfl, ⟨hE, r9, hR, hroot⟩, BW_of ht hP⟩, hS.F ht⟩) hS.2.2 d_Ro_putRoot_157
          · exact absurd (nI_le (by omega) (by omega)) c60
        | succ mm ih =>
          intro kn r9 w2 H locs ls hal hk1 hka hE hR hL hW hroot hlo hhi hP hD hS hl
          refine lv_iload hx hb d_Ro_putRoot_56 (lv_at hl 0 rfl) ?_
          refine lv_iload hx hb d_Ro_putRoot_58 (lv_at hl 1 rfl) ?_
          refine lv_icmp_ge (tgt := 157) hx hb d_Ro_putRoot_60 (by decide) (fun c60 => ?_) (fun c60 => ?_)
          · skip
            have c60 : al ≤ kn := (nI_leI (by omega) (by omega)).mp c60
            rw [show al - kn = 0 by omega, Nat.zero_mul, Nat.pow_zero, Nat.div_one] at hroot
            exact W.vret hx hb hr (fun t ht hW => ⟨⟨w2, rfl, ⟨hE, r9, hR, hroot⟩, BW_of ht hP⟩, hS.F ht⟩) hS.2.2 d_Ro_putRoot_157
          · skip
            have c60 : ¬ (al ≤ kn) := fun h => c60 ((nI_leI (by omega) (by omega)).mpr h)
            refine lv_iconst (v := nI (1)) hx hb d_Ro_putRoot_63 (by decide) ?_
            refine lv_iload hx hb d_Ro_putRoot_64 (lv_at hl 0 rfl) ?_
            refine lv_iload hx hb d_Ro_putRoot_66 (lv_at hl 1 rfl) ?_
            refine lv_iload_n hx hb d_Ro_putRoot_68 rfl (lv_at hl 6 rfl) ?_
            refine wS_i (As := [.int (nI (kn)), .int (nI (al)), .int (nI (n))]) (rest := [.int (nI (1))]) (n := 3) ⟨hx, hb, hml, hown, hts⟩ (c_Ro_nextLength l w2 _ (kn := kn) (al := al) (n := n) (by omega) (by omega) (by omega)) (cwS0 3 hts lm_Ro_34 st_Ro_nextLength in_Ro kq_Ro_nextLength rfl rfl rfl (by decide +kernel) ⟨Nat.le_of_ble_eq_true rfl, Nat.le_of_ble_eq_true rfl⟩) hKW hP hD hS rfl hl.1 rfl (Nat.le_of_ble_eq_true rfl) d_Ro_putRoot_69 ⟨Nat.zero_le _, Nat.zero_le _⟩ (fun r w3 H locs hp hP hD hS => ?_)
            obtain ⟨ew, z, er, hz1, hz2, hz3⟩ := hp
            rw [ew] at hP hD
            subst er
            refine lv_iload hx hb d_Ro_putRoot_72 (lv_at hl 0 rfl) ?_
            refine nw_isub (v := iZ (z - (kn : Int))) hx hb d_Ro_putRoot_74 (iZ_kn z kn) ?_
            obtain ⟨mo, hm, hmo1, hmo2, hmo3⟩ := mx_one (z := z - (kn : Int)) (by omega) (by omega)
            refine nw_max hx hb (hml.trans hl.1.symm) hts hown lm_Ro_38 (Nat.le_of_ble_eq_true rfl) (Nat.le_of_ble_eq_true rfl) (Nat.zero_le _) (Nat.zero_le _) hm d_Ro_putRoot_75 ?_
            have hkm : kn + mo ≤ al := by omega
            have hmc : mo = 1 ∨ mo + (nb n + 1) ≤ kn := by omega
            clear hm hmo2 hmo3 hz1 hz2 hz3
            refine lv_istore (lv' := [(8, .int (nI (mo))), (7, .int (nI (kn))), (6, .int (nI (al))), (5, .int (nI (nb v))), (0, .ref (ad 4)), (1, .ref (ad (2 * i + 8))), (2, .ref (ad (2 * a + 8))), (3, .int (nI (n))), (4, .ref (ad 2))]) hx hb d_Ro_putRoot_78 hl (by decide) rfl (fun ls hl => ?_)
            refine lv_iload hx hb d_Ro_putRoot_80 (lv_at hl 1 rfl) ?_
            refine lv_iload hx hb d_Ro_putRoot_82 (lv_at hl 0 rfl) ?_
            refine nw_iadd (v := nI (kn + mo)) hx hb d_Ro_putRoot_84 (nI_add _ _) ?_
            refine lv_istore (lv' := [(7, .int (nI (kn + mo))), (8, .int (nI (mo))), (6, .int (nI (al))), (5, .int (nI (nb v))), (0, .ref (ad 4)), (1, .ref (ad (2 * i + 8))), (2, .ref (ad (2 * a + 8))), (3, .int (nI (n))), (4, .ref (ad 2))]) hx hb d_Ro_putRoot_85 hl (by decide) rfl (fun ls hl => ?_)
            refine lv_iload hx hb d_Ro_putRoot_87 (lv_at hl 2 rfl) ?_
            refine lv_iload hx hb d_Ro_putRoot_89 (lv_at hl 0 rfl) ?_
            refine nw_isub (v := nI (al - (kn + mo))) hx hb d_Ro_putRoot_91 (pk_sub (by omega)) ?_
            refine lv_iload_n hx hb d_Ro_putRoot_92 rfl (lv_at hl 7 rfl) ?_
            refine nw_imul (v := nI ((al - (kn + mo)) * n)) hx hb d_Ro_putRoot_93 (pk_mul _ _) ?_
            obtain ⟨hid, hhid⟩ : ∃ hid, hid = (al - (kn + mo)) * n := ⟨_, rfl⟩
            rw [← hhid]
            obtain ⟨x9, hx9⟩ : ∃ x9, x9 = (v / 2 ^ (hid + mo * (n - 1)) - r9 ^ n * 2 ^ mo) / (r9 ^ (n - 1) * n) := ⟨_, rfl⟩
            obtain ⟨hle, r8, hr8, hr8a, hr8b, hr8c, hr8d⟩ := rt_step (by omega) hk1 hkm hmc hhid hroot hlo hhi hx9
            have hr91 : 1 ≤ r9 := Nat.le_trans (Nat.pow_pos (by decide)) hlo
            have hvl : v < 2 ^ 200000 := nb_le_iff.mp hb9
            have hds : ∀ j, v / 2 ^ j ≤ v := fun j => Nat.div_le_self _ _
            have hle2 : r9 ^ n * 2 ^ mo ≤ v := Nat.le_trans hle (hds _)
            have hpm : 1 ≤ 2 ^ mo := Nat.pow_pos (by decide)
            have hrn : r9 ^ n ≤ v := Nat.le_trans (Nat.le_mul_of_pos_right _ hpm) hle2
            have hrn1 : r9 ^ (n - 1) ≤ v := Nat.le_trans (Nat.pow_le_pow_right hr91 (by omega)) hrn
            have hrr : r9 * 2 ^ mo ≤ v := Nat.le_trans (Nat.mul_le_mul_right _ (by have := Nat.pow_le_pow_right hr91 hn1; rwa [Nat.pow_one] at this)) hle2
            have hhm : hid + mo * (n - 1) ≤ 200100 := by
              have e1 : hid + mo * n = (al - kn) * n := by rw [hhid, ← Nat.add_mul]; congr 1; omega
              have e2 : mo * (n - 1) ≤ mo * n := Nat.mul_le_mul_left _ (by omega)
              have e3 : (al - kn) * n ≤ al * n := Nat.mul_le_mul_right _ (by omega)
              omega
            have hva : NV w2 a v := hE.nv (by simp only [List.mem_cons, List.not_mem_nil, or_false]; omega) hv
            have hla : sL w2 a ≤ 6270 := fitL hva (p2_fit hvl (by omega))
            have hll : sL w2 11 ≤ 6270 := fitL hL (p2_fit (Nat.lt_of_le_of_lt hrn1 hvl) (by omega))
            refine lv_istore (lv' := [(9, .int (nI (hid))), (7, .int (nI (kn + mo))), (8, .int (nI (mo))), (6, .int (nI (al))), (5, .int (nI (nb v))), (0, .ref (ad 4)), (1, .ref (ad (2 * i + 8))), (2, .ref (ad (2 * a + 8))), (3, .int (nI (n))), (4, .ref (ad 2))]) hx hb d_Ro_putRoot_94 hl (by decide) rfl (fun ls hl => ?_)
            refine lv_aload_n hx hb d_Ro_putRoot_96 rfl (lv_at hl 5 rfl) ?_
            refine lv_aload_n hx hb d_Ro_putRoot_97 rfl (lv_at hl 7 rfl) ?_
            refine lv_iload_n hx hb d_Ro_putRoot_98 rfl (lv_at hl 8 rfl) ?_
            refine lv_iload hx hb d_Ro_putRoot_99 (lv_at hl 2 rfl) ?_
            refine lv_iload hx hb d_Ro_putRoot_101 (lv_at hl 0 rfl) ?_
            refine wV_v (As := [.ref (ad (2 * a + 8)), .int (nI (n)), .int (nI (mo)), .int (nI (hid))]) (rest := []) (n := 4) ⟨hx, hb, hml, hown, hts⟩ (c_Ro_layStep l w2 _ (a := a) (n := n) (mo := mo) (hid := hid) ha hva hW hL hn1 (by omega) (by omega) (by omega) hle (by omega) (p2_fit (Nat.lt_of_le_of_lt hle2 hvl) (by omega)) (by omega)) (cwV0 4 hts lm_Ro_44 im_Ro_layStep se_Ro_layStep in_Ro kq_Ro_layStep rfl rfl rfl (by decide +kernel) ⟨Nat.le_of_ble_eq_true rfl, Nat.le_of_ble_eq_true rfl⟩) (recvO hKW.1 hP) hKW hP hD hS rfl hl.1 rfl (Nat.le_of_ble_eq_true rfl) d_Ro_putRoot_103 ⟨Nat.zero_le _, Nat.zero_le _⟩ (fun w4 H locs hp hP hD hS => ?_)
            obtain ⟨hE4, hP4, hL4⟩ := hp
            have hu4 : r9 ^ (n - 1) * n ≠ 0 := Nat.ne_of_gt (Nat.mul_pos (Nat.pow_pos hr91) (by omega))
            have hR4 := hE4.nv (by simp only [List.mem_cons, List.not_mem_nil, or_false]; omega) hR
            have hl13 : sL w4 13 ≤ 6270 := fitL hP4 (p2_fit (Nat.lt_of_le_of_lt (Nat.le_trans (Nat.sub_le _ _) (hds _)) hvl) (by omega))
            refine lv_aload hx hb d_Ro_putRoot_106 (lv_at hl 9 rfl) ?_
            refine lv_aload_n hx hb d_Ro_putRoot_108 rfl (lv_at hl 5 rfl) ?_
            refine nw_gO2 hx hb hts hown hKW.1 hP lf_Ro_19 d_Ro_putRoot_109 ?_
            refine lv_aload_n hx hb d_Ro_putRoot_112 rfl (lv_at hl 5 rfl) ?_
            refine nw_gO1 hx hb hts hown hKW.1 hP lf_Ro_16 d_Ro_putRoot_113 ?_
            refine lv_aload_n hx hb d_Ro_putRoot_116 rfl (lv_at hl 5 rfl) ?_
            refine nw_gO2 hx hb hts hown hKW.1 hP lf_Ro_19 d_Ro_putRoot_117 ?_
            refine lv_aload_n hx hb d_Ro_putRoot_120 rfl (lv_at hl 5 rfl) ?_
            refine nw_gO0 hx hb hts hown hKW.1 hP lf_Ro_10 d_Ro_putRoot_121 ?_
            refine wV_i (As := [.ref (ad 34), .ref (ad 32), .ref (ad 34), .ref (ad 30)]) (rest := []) (n := 4) ⟨hx, hb, hml, hown, hts⟩ (c_Be_putQuotient l w4 _ (x := 13) (y := 12) (a := 13) (b := 11) (by omega) (by omega) (by omega) (by omega) hP4 hL4 hu4 hl13) (cwV0 4 hts lm_Ro_48 im_Be_putQuotient se_Be_putQuotient in_Be kq_Be_putQuotient rfl rfl rfl (by decide +kernel) ⟨Nat.le_of_ble_eq_true rfl, Nat.le_of_ble_eq_true rfl⟩) (recvB hKW.1 hP) hKW hP hD hS rfl hl.1 rfl (Nat.le_of_ble_eq_true rfl) d_Ro_putRoot_124 ⟨Nat.zero_le _, Nat.zero_le _⟩ (fun r w5 H locs hp hP hD hS => ?_)
            obtain ⟨er, hE5, hX5, _⟩ := hp
            subst er
            have hX5 := hX5 (by decide)
            rw [← hx9] at hX5
            rw [← hx9]
            have hR5 := hE5.nv (by simp only [List.mem_cons, List.not_mem_nil, or_false]; omega) hR4
            have hxv : x9 ≤ v := by rw [hx9]; exact Nat.le_trans (Nat.div_le_self _ _) (Nat.le_trans (Nat.sub_le _ _) (hds _))
            have hxb : nb x9 ≤ 200000 := nb_le_iff.mpr (Nat.lt_of_le_of_lt hxv hvl)
            refine lv_pop hx hb d_Ro_putRoot_127 rfl ?_
            refine lv_aload_n hx hb d_Ro_putRoot_128 rfl (lv_at hl 5 rfl) ?_
            refine lv_aload_n hx hb d_Ro_putRoot_129 rfl (lv_at hl 6 rfl) ?_
            refine lv_iload hx hb d_Ro_putRoot_130 (lv_at hl 2 rfl) ?_
            refine wV_v (As := [.ref (ad (2 * i + 8)), .int (nI (mo))]) (rest := []) (n := 2) ⟨hx, hb, hml, hown, hts⟩ (c_Ro_lengthen l w5 _ (i := i) (r9 := r9) (x9 := x9) (mo := mo) hi hR5 hX5 (by omega) (p2_fit (Nat.lt_of_le_of_lt hrr hvl) (by omega)) (by omega)) (cwV0 2 hts lm_Ro_54 im_Ro_lengthen se_Ro_lengthen in_Ro kq_Ro_lengthen rfl rfl rfl (by decide +kernel) ⟨Nat.le_of_ble_eq_true rfl, Nat.le_of_ble_eq_true rfl⟩) (recvO hKW.1 hP) hKW hP hD hS rfl hl.1 rfl (Nat.le_of_ble_eq_true rfl) d_Ro_putRoot_132 ⟨Nat.zero_le _, Nat.zero_le _⟩ (fun w6 H locs hp hP hD hS => ?_)
            obtain ⟨hE6, hR6⟩ := hp
            have hE06 : eqB w w6 [i, 11, 12, 13] := ((hE.trans (hE4.mono (fun j h => by simp only [List.mem_cons, List.not_mem_nil, or_false] at h ⊢; omega))).trans (hE5.mono (fun j h => by simp only [List.mem_cons, List.not_mem_nil, or_false] at h ⊢; omega))).trans (hE6.mono (fun j h => by simp only [List.mem_cons, List.not_mem_nil, or_false] at h ⊢; omega))
            obtain ⟨k9, hk9⟩ : ∃ k9, k9 = r9 * 2 ^ mo + (if nb x9 ≤ mo then x9 else 2 ^ mo - 1) := ⟨_, rfl⟩
            rw [← hk9] at hr8a hr8b hr8c hR6
            have hva6 : NV w6 a v := hE06.nv (by simp only [List.mem_cons, List.not_mem_nil, or_false]; omega) hv
            have hla6 : sL w6 a ≤ 6270 := fitL hva6 (p2_fit hvl (by omega))
            refine lv_aload_n hx hb d_Ro_putRoot_135 rfl (lv_at hl 5 rfl) ?_
            refine nw_gO2 hx hb hts hown hKW.1 hP lf_Ro_19 d_Ro_putRoot_136 ?_
            refine lv_aload_n hx hb d_Ro_putRoot_139 rfl (lv_at hl 7 rfl) ?_
            refine lv_iload hx hb d_Ro_putRoot_140 (lv_at hl 0 rfl) ?_
            refine nw_ineg (v := -(nI (hid))) hx hb d_Ro_putRoot_142 rfl ?_
            refine wV_v (As := [.ref (ad (2 * a + 8)), .int (-(nI (hid)))]) (rest := []) (n := 2) ⟨hx, hb, hml, hown, hts⟩ (c_Na_putMovedD l w6 _ (i := 13) (a := a) (n := hid) (by omega) (by omega) hva6 (by omega) (by omega)) (cwV0 2 hts lm_Ro_58 im_Na_putMoved se_Na_putMoved in_Na kq_Na_putMoved rfl rfl rfl (by decide +kernel) ⟨Nat.le_of_ble_eq_true rfl, Nat.le_of_ble_eq_true rfl⟩) (recvN hKW.1 hP (i := 13) (by omega)) hKW hP hD hS rfl hl.1 rfl (Nat.le_of_ble_eq_true rfl) d_Ro_putRoot_143 ⟨Nat.zero_le _, Nat.zero_le _⟩ (fun w7 H locs hp hP hD hS => ?_)
            obtain ⟨hE7, hV7⟩ := hp
            have hR7 := hE7.nv (show i ≠ 13 by omega) hR6
            have hk9n : k9 ^ n < 2 ^ 200640 := by
              have e1 : k9 ^ n < (2 ^ (kn + mo)) ^ n := pw_lt hr8c hn1
              rw [← Nat.pow_mul] at e1
              have e2 : (kn + mo) * n ≤ al * n := Nat.mul_le_mul_right _ hkm
              exact p2_fit e1 (by omega)
            refine lv_aload_n hx hb d_Ro_putRoot_146 rfl (lv_at hl 5 rfl) ?_
            refine lv_aload_n hx hb d_Ro_putRoot_147 rfl (lv_at hl 6 rfl) ?_
            refine lv_iload_n hx hb d_Ro_putRoot_148 rfl (lv_at hl 8 rfl) ?_
            refine lv_aload hx hb d_Ro_putRoot_149 (lv_at hl 9 rfl) ?_
            refine wV_v (As := [.ref (ad (2 * i + 8)), .int (nI (n)), .ref (ad 2)]) (rest := []) (n := 3) ⟨hx, hb, hml, hown, hts⟩ (c_Ro_lowerToFit l w7 _ (i := i) (n := n) (v := v / 2 ^ hid) (r9 := r8) (k9 := k9) hi (by omega) (by omega) hV7 hR7 hr8 hr8a (by omega) hk9n) (cwV0 3 hts lm_Ro_61 im_Ro_lowerToFit se_Ro_lowerToFit in_Ro kq_Ro_lowerToFit rfl rfl rfl (by decide +kernel) ⟨Nat.le_of_ble_eq_true rfl, Nat.le_of_ble_eq_true rfl⟩) (recvO hKW.1 hP) hKW hP hD hS rfl hl.1 rfl (Nat.le_of_ble_eq_true rfl) d_Ro_putRoot_151 ⟨Nat.zero_le _, Nat.zero_le _⟩ (fun w8 H locs hp hP hD hS => ?_)
            obtain ⟨hE8, hR8, hL8, hW8⟩ := hp
            have hE08 : eqB w w8 [i, 11, 12, 13] := (hE06.trans (hE7.B (p := [i, 11, 12, 13]) (by simp))).trans (hE8.mono (fun j h => by simp only [List.mem_cons, List.not_mem_nil, or_false] at h ⊢; omega))
            refine lv_goto (tgt := 56) hx hb d_Ro_putRoot_154 (by decide) ?_
            exact ih (kn + mo) r8 w8 H locs ls (by omega) (by omega) hkm hE08 hR8 hL8 hW8 (by rw [← hhid]; exact hr8) hr8d (by omega) hP hD hS (lv_sub hl [1, 3, 4, 5, 6, 7, 8, 9] rfl)
      exact loop al 1 1 w3 H locs ls (by omega) (by omega) ha1 hE03 hVi (by rw [Nat.one_pow]; exact hVl) (by rw [Nat.one_pow]; exact hV3) hini (by decide) (by decide) hP hD hS (lv_sub hl [0, 1, 2, 3, 4, 5, 6, 7] rfl)
    · skip
      have c13 : nb v = 0 := (nI_eq (by omega) (by omega)).mp (by rw [nI_0]; exact c13)
      have hv0 : v = 0 := by
        rcases Nat.eq_zero_or_pos v with q | q
        · exact q
        · have := nb_pos (v := v) (by omega)
          omega
      refine lv_aload_n hx hb d_Ro_putRoot_16 rfl (lv_at hl 2 rfl) ?_
      refine lv_aload_n hx hb d_Ro_putRoot_17 rfl (lv_at hl 3 rfl) ?_
      refine wV_v (As := [.ref (ad (2 * a + 8))]) (rest := []) (n := 1) ⟨hx, hb, hml, hown, hts⟩ (c_Na_putSame l w _ (i := i) (a := a) (by omega) (by omega) hv) (cwV0 1 hts lm_Ro_26 im_Na_putSame se_Na_putSame in_Na kq_Na_putSame rfl rfl rfl (by decide +kernel) ⟨Nat.le_of_ble_eq_true rfl, Nat.le_of_ble_eq_true rfl⟩) (recvN hKW.1 hP (i := i) (by omega)) hKW hP hD hS rfl hl.1 rfl (Nat.le_of_ble_eq_true rfl) d_Ro_putRoot_18 ⟨Nat.zero_le _, Nat.zero_le _⟩ (fun w1 H locs hp hP hD hS => ?_)
      obtain ⟨hE1, hV1⟩ := hp
      exact W.vret hx hb hr (fun t ht hW => ⟨⟨w1, rfl, ⟨hE1.B (List.mem_cons_self ..), v, hV1, by rw [hv0]; exact root_zero hn1⟩, BW_of ht hP⟩, hS.F ht⟩) hS.2.2 d_Ro_putRoot_21

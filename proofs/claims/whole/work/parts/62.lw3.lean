/-! THE FACE: readDigits, cutIntoPieces, countDigits, writeDigits, feedWord (rows laid by wip/whole/gen/c_lw3.py) -/
set_option maxHeartbeats 4000000 in
set_option maxRecDepth 100000 in
/-- readDigits(count, base) -/
theorem c_Lw_readDigits (l : Launch) {D : va_G} {cI cB cR : ClassId} {ad : Nat → Nat} (w : St) (sz : Nat) {n b : Nat} (hn : n ≤ 4096) (h2 : 2 ≤ b) (hb9 : b ≤ 36) (hdg : ∀ j, j < n → dgN (sT w j) < b) : Met l y_Lw_readDigits (q_Lw_readDigits :: wA) { frames := 3, cells := 0, slots := 0, locals := 100 } (va_Pc [.ref (ad 0), .int (nI (n)), .int (nI (b))] (PW D cI cB cR ad w sz)) (va_Qv (fun w1 : St => eqB w w1 [10] ∧ NV w1 10 (rdv b (sT w) n)) (BW D cI cB cR ad) (AA ad sz)) 0 0 (AA ad sz) := by
  refine Met.ofW (cc := b_Lw_readDigits) (maxL := 8) (ret := none) (by decide) rfl ?_
  intro p e s m args below meth c s₁ B hml hv
  obtain ⟨rfl, hsz, hP, hD0, hKW⟩ := hv
  have hx := B.exec
  have hb := B.bytes
  have hr := B.returns
  have hts := atoms_spec (ws := q_Lw_readDigits :: wA) B.pre
  have hown : s.vm.findClass R_Lw = some m.cls := findClass_of_methodNamed B.named
  have hlocks := B.notSynchronized
  subst hsz
  have hD := NC_AA (sz := s.heap.size) hD0
  have hS : va_S (AA ad s.heap.size) s.heap s.heap [] := va_S.rf
  have hl := lv_entry ([.ref (ad 0), .int (nI (n)), .int (nI (b))]) (n := 8) (Nat.le_of_ble_eq_true rfl)
  rw [lg_entry_eq]
  generalize (lg_sl ([.ref (ad 0), .int (nI (n)), .int (nI (b))]) ++ List.replicate (8 - (lg_sl ([.ref (ad 0), .int (nI (n)), .int (nI (b))])).length) Slot.unset).toArray = ls at hl ⊢
  have hl : lv_has ls 8 [(0, .ref (ad 0)), (1, .int (nI (n))), (2, .int (nI (b)))] := hl
  refine lv_iload_n hx hb d_Lw_readDigits_0 rfl (lv_at hl 2 rfl) ?_
  refine wS_i (As := [.int (nI (b))]) (rest := []) (n := 1) ⟨hx, hb, hml, hown, hts⟩ (c_Lw_digitsOfPiece l w _ (b := b) h2 hb9) (cwS0 1 hts lm_Lw_138 st_Lw_digitsOfPiece in_Lw kq_Lw_digitsOfPiece rfl rfl rfl (by decide +kernel) ⟨Nat.le_of_ble_eq_true rfl, Nat.le_of_ble_eq_true rfl⟩) hKW hP hD hS rfl hl.1 rfl (Nat.le_of_ble_eq_true rfl) d_Lw_readDigits_1 ⟨Nat.zero_le _, Nat.zero_le _⟩ (fun r w1 H locs hp hP hD hS => ?_)
  obtain ⟨ew, d9, er, hd1, hd2, hd3, _⟩ := hp
  rw [ew] at hP hD
  subst er
  refine lv_istore_n (lv' := [(3, .int (nI (d9))), (0, .ref (ad 0)), (1, .int (nI (n))), (2, .int (nI (b)))]) hx hb d_Lw_readDigits_4 rfl hl (by decide) rfl (fun ls hl => ?_)
  refine lv_aload_n hx hb d_Lw_readDigits_5 rfl (lv_at hl 1 rfl) ?_
  refine nw_gF1 hx hb hts hown hKW.1 hP lf_Lw_16 d_Lw_readDigits_6 ?_
  refine lv_lconst (v := lN (0)) hx hb d_Lw_readDigits_9 (by decide) ?_
  refine wV_v (As := [.long (lN (0))]) (rest := []) (n := 1) ⟨hx, hb, hml, hown, hts⟩ (c_Na_putLong l w _ (i := 10) (by omega) (lN 0)) (cwV0 1 hts lm_Lw_56 im_Na_putLong se_Na_putLong in_Na kq_Na_putLong rfl rfl rfl (by decide +kernel) ⟨Nat.le_of_ble_eq_true rfl, Nat.le_of_ble_eq_true rfl⟩) (recvN hKW.1 hP (i := 10) (by omega)) hKW hP hD hS rfl hl.1 rfl (Nat.le_of_ble_eq_true rfl) d_Lw_readDigits_10 ⟨Nat.zero_le _, Nat.zero_le _⟩ (fun w1 H locs hp hP hD hS => ?_)
  obtain ⟨hE1, hV1⟩ := hp
  refine lv_iconst (v := nI (0)) hx hb d_Lw_readDigits_13 (by decide) ?_
  refine lv_istore (lv' := [(4, .int (nI (0))), (3, .int (nI (d9))), (0, .ref (ad 0)), (1, .int (nI (n))), (2, .int (nI (b)))]) hx hb d_Lw_readDigits_14 hl (by decide) rfl (fun ls hl => ?_)
  have loop : ∀ (mm fr : Nat) (w2 : St) (H : Heap) (locs : List Loc) (ls : Array Slot), n ≤ fr + mm → fr < 2 ^ 20 → eqB w w2 [10] → NV w2 10 (rdv b (sT w) (min fr n)) → va_P D clA (NC cI cB cR ad (w2)) H → va_D (AA ad s.heap.size) (NC cI cB cR ad (w2)) → va_S (AA ad s.heap.size) s.heap H locs → lv_has ls 8 [(4, .int (nI (fr))), (3, .int (nI (d9))), (0, .ref (ad 0)), (1, .int (nI (n))), (2, .int (nI (b)))] → W p l e (headSpec (q_Lw_readDigits :: wA) { frames := 3, cells := 0, slots := 0, locals := 100 }).room s m ([.ref (ad 0), .int (nI (n)), .int (nI (b))] : List Value).toArray below meth c H locs 0 0 (MQ below (va_Qv (fun w1 : St => eqB w w1 [10] ∧ NV w1 10 (rdv b (sT w) n)) (BW D cI cB cR ad) (AA ad s.heap.size)) ([.ref (ad 0), .int (nI (n)), .int (nI (b))] : List Value).toArray s 0 0 (AA ad s.heap.size)) (F0 m 16 ls []) := by
    intro mm
    induction mm with
    | zero =>
      intro fr w2 H locs ls hmm hf20 hE hV hP hD hS hl
      refine lv_iload hx hb d_Lw_readDigits_16 (lv_at hl 0 rfl) ?_
      refine lv_iload_n hx hb d_Lw_readDigits_18 rfl (lv_at hl 3 rfl) ?_
      refine lv_icmp_ge (tgt := 95) hx hb d_Lw_readDigits_19 (by decide) (fun c19 => ?_) (fun c19 => ?_)
      · skip
        have c19 : n ≤ fr := (nI_leI (by omega) (by omega)).mp c19
        rw [Nat.min_eq_right (by omega)] at hV
        exact W.vret hx hb hr (fun t ht hW => ⟨⟨w2, rfl, ⟨hE, hV⟩, BW_of ht hP⟩, hS.F ht⟩) hS.2.2 d_Lw_readDigits_95
      · exact absurd (nI_le (by omega) (by omega)) c19
    | succ mm ih =>
      intro fr w2 H locs ls hmm hf20 hE hV hP hD hS hl
      refine lv_iload hx hb d_Lw_readDigits_16 (lv_at hl 0 rfl) ?_
      refine lv_iload_n hx hb d_Lw_readDigits_18 rfl (lv_at hl 3 rfl) ?_
      refine lv_icmp_ge (tgt := 95) hx hb d_Lw_readDigits_19 (by decide) (fun c19 => ?_) (fun c19 => ?_)
      · skip
        have c19 : n ≤ fr := (nI_leI (by omega) (by omega)).mp c19
        rw [Nat.min_eq_right (by omega)] at hV
        exact W.vret hx hb hr (fun t ht hW => ⟨⟨w2, rfl, ⟨hE, hV⟩, BW_of ht hP⟩, hS.F ht⟩) hS.2.2 d_Lw_readDigits_95
      · skip
        have c19 : ¬ (n ≤ fr) := fun h => c19 ((nI_leI (by omega) (by omega)).mpr h)
        rw [Nat.min_eq_left (by omega)] at hV
        refine lv_iload_n hx hb d_Lw_readDigits_22 rfl (lv_at hl 1 rfl) ?_
        refine lv_iload_n hx hb d_Lw_readDigits_23 rfl (lv_at hl 3 rfl) ?_
        refine lv_iload hx hb d_Lw_readDigits_24 (lv_at hl 0 rfl) ?_
        refine nw_isub (v := nI (n - fr)) hx hb d_Lw_readDigits_26 (pk_sub (by omega)) ?_
        refine nw_min hx hb (hml.trans hl.1.symm) hts hown lm_Lw_177 (Nat.le_of_ble_eq_true rfl) (Nat.le_of_ble_eq_true rfl) (Nat.zero_le _) (Nat.zero_le _) (nI_min (by omega) (by omega)) d_Lw_readDigits_27 ?_
        obtain ⟨dg9, hdg9⟩ : ∃ dg9, dg9 = min d9 (n - fr) := ⟨_, rfl⟩
        rw [← hdg9]
        refine lv_istore (lv' := [(5, .int (nI (dg9))), (4, .int (nI (fr))), (3, .int (nI (d9))), (0, .ref (ad 0)), (1, .int (nI (n))), (2, .int (nI (b)))]) hx hb d_Lw_readDigits_30 hl (by decide) rfl (fun ls hl => ?_)
        refine lv_iconst (v := nI (0)) hx hb d_Lw_readDigits_32 (by decide) ?_
        refine lv_istore (lv' := [(6, .int (nI (0))), (5, .int (nI (dg9))), (4, .int (nI (fr))), (3, .int (nI (d9))), (0, .ref (ad 0)), (1, .int (nI (n))), (2, .int (nI (b)))]) hx hb d_Lw_readDigits_33 hl (by decide) rfl (fun ls hl => ?_)
        refine lv_iconst (v := nI (0)) hx hb d_Lw_readDigits_35 (by decide) ?_
        refine lv_istore (lv' := [(7, .int (nI (0))), (6, .int (nI (0))), (5, .int (nI (dg9))), (4, .int (nI (fr))), (3, .int (nI (d9))), (0, .ref (ad 0)), (1, .int (nI (n))), (2, .int (nI (b)))]) hx hb d_Lw_readDigits_36 hl (by decide) rfl (fun ls hl => ?_)
        have hT : sT w2 = sT w := by show w2.2.2.2.2.1 = w.2.2.2.2.1; rw [hE.2]
        have inner : ∀ (kk i : Nat) (H : Heap) (locs : List Loc) (ls : Array Slot), i + kk = dg9 → va_P D clA (NC cI cB cR ad (w2)) H → va_D (AA ad s.heap.size) (NC cI cB cR ad (w2)) → va_S (AA ad s.heap.size) s.heap H locs → lv_has ls 8 [(7, .int (nI (i))), (6, .int (nI (pcv b (sT w) fr i))), (5, .int (nI (dg9))), (4, .int (nI (fr))), (3, .int (nI (d9))), (0, .ref (ad 0)), (1, .int (nI (n))), (2, .int (nI (b)))] → W p l e (headSpec (q_Lw_readDigits :: wA) { frames := 3, cells := 0, slots := 0, locals := 100 }).room s m ([.ref (ad 0), .int (nI (n)), .int (nI (b))] : List Value).toArray below meth c H locs 0 0 (MQ below (va_Qv (fun w1 : St => eqB w w1 [10] ∧ NV w1 10 (rdv b (sT w) n)) (BW D cI cB cR ad) (AA ad s.heap.size)) ([.ref (ad 0), .int (nI (n)), .int (nI (b))] : List Value).toArray s 0 0 (AA ad s.heap.size)) (F0 m 38 ls []) := by
          intro kk
          induction kk with
          | zero =>
            intro i H locs ls hi hP hD hS hl
            refine lv_iload hx hb d_Lw_readDigits_38 (lv_at hl 0 rfl) ?_
            refine lv_iload hx hb d_Lw_readDigits_40 (lv_at hl 2 rfl) ?_
            refine lv_icmp_ge (tgt := 71) hx hb d_Lw_readDigits_42 (by decide) (fun c42 => ?_) (fun c42 => ?_)
            · skip
              have hie : i = dg9 := by omega
              subst hie
              refine lv_aload_n hx hb d_Lw_readDigits_71 rfl (lv_at hl 5 rfl) ?_
              refine nw_gF1 hx hb hts hown hKW.1 hP lf_Lw_16 d_Lw_readDigits_72 ?_
              refine lv_iload_n hx hb d_Lw_readDigits_75 rfl (lv_at hl 7 rfl) ?_
              refine lv_iload hx hb d_Lw_readDigits_76 (lv_at hl 2 rfl) ?_
              have hpb : b ^ i ≤ 2147483647 := Nat.le_trans (Nat.pow_le_pow_right (by omega) (by omega)) hd3
              have hpv : pcv b (sT w) fr i < b ^ i := pcv_lt i (fun j hj => hdg _ (by omega))
              refine wS_i (As := [.int (nI (b)), .int (nI (i))]) (rest := [.ref (ad 28)]) (n := 2) ⟨hx, hb, hml, hown, hts⟩ (c_Lw_powerOf l w2 _ (b := b) (n := i) (by omega)) (cwS0 2 hts lm_Lw_141 st_Lw_powerOf in_Lw kq_Lw_powerOf rfl rfl rfl (by decide +kernel) ⟨Nat.le_of_ble_eq_true rfl, Nat.le_of_ble_eq_true rfl⟩) hKW hP hD hS rfl hl.1 rfl (Nat.le_of_ble_eq_true rfl) d_Lw_readDigits_78 ⟨Nat.zero_le _, Nat.zero_le _⟩ (fun r w3 H locs hp hP hD hS => ?_)
              obtain ⟨er, ew⟩ := hp
              rw [ew] at hP hD
              subst er
              refine lv_iload hx hb d_Lw_readDigits_81 (lv_at hl 1 rfl) ?_
              have hs10 : sL w2 10 ≤ 6271 := fitL hV (p2_fit (rdv_small hb9 (show fr ≤ 4096 by omega) (fun j hj => hdg j (by omega))) (by omega))
              refine wV_v (As := [.int (nI (b ^ i)), .int (nI (pcv b (sT w) fr i))]) (rest := []) (n := 2) ⟨hx, hb, hml, hown, hts⟩ (c_Na_scale l w2 _ (i := 10) (φ := b ^ i) (μ := pcv b (sT w) fr i) (by omega) hV (by omega) (by omega) hs10) (cwV0 2 hts lm_Lw_182 im_Na_scale se_Na_scale in_Na kq_Na_scale rfl rfl rfl (by decide +kernel) ⟨Nat.le_of_ble_eq_true rfl, Nat.le_of_ble_eq_true rfl⟩) (recvN hKW.1 hP (i := 10) (by omega)) hKW hP hD hS rfl hl.1 rfl (Nat.le_of_ble_eq_true rfl) d_Lw_readDigits_83 ⟨Nat.zero_le _, Nat.zero_le _⟩ (fun w4 H locs hp hP hD hS => ?_)
              obtain ⟨hE4, hV4⟩ := hp
              rw [← rdv_add] at hV4
              refine lv_iload hx hb d_Lw_readDigits_86 (lv_at hl 3 rfl) ?_
              refine lv_iload_n hx hb d_Lw_readDigits_88 rfl (lv_at hl 4 rfl) ?_
              refine nw_iadd (v := nI (fr + d9)) hx hb d_Lw_readDigits_89 (nI_add _ _) ?_
              refine lv_istore (lv' := [(4, .int (nI (fr + d9))), (7, .int (nI (i))), (6, .int (nI (pcv b (sT w) fr i))), (5, .int (nI (i))), (3, .int (nI (d9))), (0, .ref (ad 0)), (1, .int (nI (n))), (2, .int (nI (b)))]) hx hb d_Lw_readDigits_90 hl (by decide) rfl (fun ls hl => ?_)
              refine lv_goto (tgt := 16) hx hb d_Lw_readDigits_92 (by decide) ?_
              exact ih (fr + d9) w4 H locs ls (by omega) (by omega) (hE.trans (hE4.B (List.mem_singleton.mpr rfl))) (by rw [show min (fr + d9) n = fr + i by omega]; exact hV4) hP hD hS (lv_sub hl [0, 4, 5, 6, 7] rfl)
            · exact absurd (nI_le (by omega) (by omega)) c42
          | succ kk ih2 =>
            intro i H locs ls hi hP hD hS hl
            refine lv_iload hx hb d_Lw_readDigits_38 (lv_at hl 0 rfl) ?_
            refine lv_iload hx hb d_Lw_readDigits_40 (lv_at hl 2 rfl) ?_
            refine lv_icmp_ge (tgt := 71) hx hb d_Lw_readDigits_42 (by decide) (fun c42 => ?_) (fun c42 => ?_)
            · exact absurd c42 (nI_ge (by omega) (by omega))
            · skip
              refine lv_iload hx hb d_Lw_readDigits_45 (lv_at hl 1 rfl) ?_
              refine lv_iload_n hx hb d_Lw_readDigits_47 rfl (lv_at hl 7 rfl) ?_
              refine nw_imul (v := nI ((pcv b (sT w) fr i) * b)) hx hb d_Lw_readDigits_48 (pk_mul _ _) ?_
              refine lv_aload_n hx hb d_Lw_readDigits_49 rfl (lv_at hl 5 rfl) ?_
              refine nw_gF5 hx hb hts hown hKW.1 hP lf_Lw_38 d_Lw_readDigits_50 ?_
              refine lv_iload hx hb d_Lw_readDigits_53 (lv_at hl 3 rfl) ?_
              refine lv_iload hx hb d_Lw_readDigits_55 (lv_at hl 0 rfl) ?_
              refine nw_iadd (v := nI (fr + i)) hx hb d_Lw_readDigits_57 (nI_add _ _) ?_
              refine nw_lT hx hb hKW.1 hP (j := fr + i) (by omega) (x := sT w (fr + i)) (by rw [hT]) d_Lw_readDigits_58 ?_
              refine wS_i (As := [.int (sT w (fr + i))]) (rest := [.int (nI ((pcv b (sT w) fr i) * b))]) (n := 1) ⟨hx, hb, hml, hown, hts⟩ (c_Lw_digitOf l w2 _ (sT w (fr + i))) (cwS0 1 hts lm_Lw_174 st_Lw_digitOf in_Lw kq_Lw_digitOf rfl rfl rfl (by decide +kernel) ⟨Nat.le_of_ble_eq_true rfl, Nat.le_of_ble_eq_true rfl⟩) hKW hP hD hS rfl hl.1 rfl (Nat.le_of_ble_eq_true rfl) d_Lw_readDigits_59 ⟨Nat.zero_le _, Nat.zero_le _⟩ (fun r w3 H locs hp hP hD hS => ?_)
              obtain ⟨er, ew⟩ := hp
              rw [ew] at hP hD
              subst er
              refine nw_iadd (v := nI ((pcv b (sT w) fr i) * b + (dgN (sT w (fr + i))))) hx hb d_Lw_readDigits_62 (nI_add _ _) ?_
              refine lv_istore (lv' := [(6, .int (nI ((pcv b (sT w) fr i) * b + (dgN (sT w (fr + i)))))), (7, .int (nI (i))), (5, .int (nI (dg9))), (4, .int (nI (fr))), (3, .int (nI (d9))), (0, .ref (ad 0)), (1, .int (nI (n))), (2, .int (nI (b)))]) hx hb d_Lw_readDigits_63 hl (by decide) rfl (fun ls hl => ?_)
              refine lv_iinc (v := nI (i + 1)) (lv' := [(7, .int (nI (i + 1))), (6, .int (nI ((pcv b (sT w) fr i) * b + (dgN (sT w (fr + i)))))), (5, .int (nI (dg9))), (4, .int (nI (fr))), (3, .int (nI (d9))), (0, .ref (ad 0)), (1, .int (nI (n))), (2, .int (nI (b)))]) hx hb d_Lw_readDigits_65 hl (k := 1) rfl (nI_add _ 1) (by decide) rfl (fun ls hl => ?_)
              refine lv_goto (tgt := 38) hx hb d_Lw_readDigits_68 (by decide) ?_
              exact ih2 (i + 1) H locs ls (by omega) hP hD hS (lv_sub hl [0, 1, 2, 3, 4, 5, 6, 7] rfl)
        exact inner dg9 0 H locs ls (by omega) hP hD hS (lv_sub hl [0, 1, 2, 3, 4, 5, 6, 7] rfl)
  exact loop n 0 w1 H locs ls (by omega) (by omega) (hE1.B (List.mem_singleton.mpr rfl)) (by rw [Nat.zero_min]; exact hV1) hP hD hS (lv_sub hl [0, 1, 2, 3, 4] rfl)
set_option maxHeartbeats 4000000 in
set_option maxRecDepth 100000 in
/-- cutIntoPieces(a, base) -/
theorem c_Lw_cutIntoPieces (l : Launch) {D : va_G} {cI cB cR : ClassId} {ad : Nat → Nat} (w : St) (sz : Nat) {a v P : Nat} (ha : a < 10) (hv : NV w a v) (hP2 : 2 ≤ P) (hP9 : P ≤ 2147483647) (hv9 : v < P ^ 4800) : Met l y_Lw_cutIntoPieces (q_Lw_cutIntoPieces :: wA) { frames := 3, cells := 0, slots := 0, locals := 100 } (va_Pc [.ref (ad 0), .ref (ad (2 * a + 8)), .int (nI (P))] (PW D cI cB cR ad w sz)) (va_Qi (fun (r : Int32) (w1 : St) => ∃ n, r = nI n ∧ 1 ≤ n ∧ n ≤ 4800 ∧ v < P ^ n ∧ (n = 1 ∨ P ^ (n - 1) ≤ v) ∧ eqQ w w1 [10] ∧ ∀ j, j < n → sP w1 j = nI (v / P ^ j % P)) (BW D cI cB cR ad) (AA ad sz)) 0 0 (AA ad sz) := by
  refine Met.ofW (cc := b_Lw_cutIntoPieces) (maxL := 4) (ret := (some (.int))) (by decide) rfl ?_
  intro p e s m args below meth c s₁ B hml hv
  obtain ⟨rfl, hsz, hP, hD0, hKW⟩ := hv
  have hx := B.exec
  have hb := B.bytes
  have hr := B.returns
  have hts := atoms_spec (ws := q_Lw_cutIntoPieces :: wA) B.pre
  have hown : s.vm.findClass R_Lw = some m.cls := findClass_of_methodNamed B.named
  have hlocks := B.notSynchronized
  subst hsz
  have hD := NC_AA (sz := s.heap.size) hD0
  have hS : va_S (AA ad s.heap.size) s.heap s.heap [] := va_S.rf
  have hl := lv_entry ([.ref (ad 0), .ref (ad (2 * a + 8)), .int (nI (P))]) (n := 4) (Nat.le_of_ble_eq_true rfl)
  rw [lg_entry_eq]
  generalize (lg_sl ([.ref (ad 0), .ref (ad (2 * a + 8)), .int (nI (P))]) ++ List.replicate (4 - (lg_sl ([.ref (ad 0), .ref (ad (2 * a + 8)), .int (nI (P))])).length) Slot.unset).toArray = ls at hl ⊢
  have hl : lv_has ls 4 [(0, .ref (ad 0)), (1, .ref (ad (2 * a + 8))), (2, .int (nI (P)))] := hl
  refine lv_aload_n hx hb d_Lw_cutIntoPieces_0 rfl (lv_at hl 0 rfl) ?_
  refine nw_gF1 hx hb hts hown hKW.1 hP lf_Lw_16 d_Lw_cutIntoPieces_1 ?_
  refine lv_aload_n hx hb d_Lw_cutIntoPieces_4 rfl (lv_at hl 1 rfl) ?_
  refine wV_v (As := [.ref (ad (2 * a + 8))]) (rest := []) (n := 1) ⟨hx, hb, hml, hown, hts⟩ (c_Na_putSame l w _ (i := 10) (a := a) (by omega) (by omega) hv) (cwV0 1 hts lm_Lw_165 im_Na_putSame se_Na_putSame in_Na kq_Na_putSame rfl rfl rfl (by decide +kernel) ⟨Nat.le_of_ble_eq_true rfl, Nat.le_of_ble_eq_true rfl⟩) (recvN hKW.1 hP (i := 10) (by omega)) hKW hP hD hS rfl hl.1 rfl (Nat.le_of_ble_eq_true rfl) d_Lw_cutIntoPieces_5 ⟨Nat.zero_le _, Nat.zero_le _⟩ (fun w1 H locs hp hP hD hS => ?_)
  obtain ⟨hE1, hV1⟩ := hp
  refine lv_aload_n hx hb d_Lw_cutIntoPieces_8 rfl (lv_at hl 0 rfl) ?_
  refine nw_gF4 hx hb hts hown hKW.1 hP lf_Lw_34 d_Lw_cutIntoPieces_9 ?_
  refine lv_iconst (v := nI (0)) hx hb d_Lw_cutIntoPieces_12 (by decide) ?_
  refine lv_aload_n hx hb d_Lw_cutIntoPieces_13 rfl (lv_at hl 0 rfl) ?_
  refine nw_gF1 hx hb hts hown hKW.1 hP lf_Lw_16 d_Lw_cutIntoPieces_14 ?_
  refine lv_iload_n hx hb d_Lw_cutIntoPieces_17 rfl (lv_at hl 2 rfl) ?_
  refine wV_i (As := [.int (nI (P))]) (rest := [.int (nI (0)), .ref (ad 5)]) (n := 1) ⟨hx, hb, hml, hown, hts⟩ (c_Na_reduce l w1 _ (i := 10) (δ := P) (by omega) hV1 (by omega) (by omega)) (cwV0 1 hts lm_Lw_186 im_Na_reduce se_Na_reduce in_Na kq_Na_reduce rfl rfl rfl (by decide +kernel) ⟨Nat.le_of_ble_eq_true rfl, Nat.le_of_ble_eq_true rfl⟩) (recvN hKW.1 hP (i := 10) (by omega)) hKW hP hD hS rfl hl.1 rfl (Nat.le_of_ble_eq_true rfl) d_Lw_cutIntoPieces_18 ⟨Nat.zero_le _, Nat.zero_le _⟩ (fun r w2 H locs hp hP hD hS => ?_)
  obtain ⟨er, hE2, hV2⟩ := hp
  subst er
  refine nw_sP hx hb hKW.1 hP hD hS (j := 0) (by omega) d_Lw_cutIntoPieces_21 (fun H locs hP hD hS => ?_)
  refine lv_iconst (v := nI (1)) hx hb d_Lw_cutIntoPieces_22 (by decide) ?_
  refine lv_istore_n (lv' := [(3, .int (nI (1))), (0, .ref (ad 0)), (1, .ref (ad (2 * a + 8))), (2, .int (nI (P)))]) hx hb d_Lw_cutIntoPieces_23 rfl hl (by decide) rfl (fun ls hl => ?_)
  have loop : ∀ (mm n : Nat) (w3 : St) (H : Heap) (locs : List Loc) (ls : Array Slot), n + mm = 4800 → 1 ≤ n → (n = 1 ∨ P ^ (n - 1) ≤ v) → eqQ w w3 [10] → NV w3 10 (v / P ^ n) → (∀ j, j < n → sP w3 j = nI (v / P ^ j % P)) → va_P D clA (NC cI cB cR ad (w3)) H → va_D (AA ad s.heap.size) (NC cI cB cR ad (w3)) → va_S (AA ad s.heap.size) s.heap H locs → lv_has ls 4 [(3, .int (nI (n))), (0, .ref (ad 0)), (1, .ref (ad (2 * a + 8))), (2, .int (nI (P)))] → W p l e (headSpec (q_Lw_cutIntoPieces :: wA) { frames := 3, cells := 0, slots := 0, locals := 100 }).room s m ([.ref (ad 0), .ref (ad (2 * a + 8)), .int (nI (P))] : List Value).toArray below meth c H locs 0 0 (MQ below (va_Qi (fun (r : Int32) (w1 : St) => ∃ n, r = nI n ∧ 1 ≤ n ∧ n ≤ 4800 ∧ v < P ^ n ∧ (n = 1 ∨ P ^ (n - 1) ≤ v) ∧ eqQ w w1 [10] ∧ ∀ j, j < n → sP w1 j = nI (v / P ^ j % P)) (BW D cI cB cR ad) (AA ad s.heap.size)) ([.ref (ad 0), .ref (ad (2 * a + 8)), .int (nI (P))] : List Value).toArray s 0 0 (AA ad s.heap.size)) (F0 m 24 ls []) := by
    intro mm
    induction mm with
    | zero =>
      intro n w3 H locs ls hmm hn1 hlo hE hV hpc hP hD hS hl
      have hPp : 0 < P ^ n := Nat.pow_pos (by omega)
      have hL9 := hV.len
      have hz9 := hV.zero
      obtain ⟨L9, hL⟩ : ∃ L9, L9 = sL w3 10 := ⟨_, rfl⟩
      rw [← hL] at hL9 hz9
      refine lv_aload_n hx hb d_Lw_cutIntoPieces_24 rfl (lv_at hl 1 rfl) ?_
      refine nw_gF1 hx hb hts hown hKW.1 hP lf_Lw_16 d_Lw_cutIntoPieces_25 ?_
      refine nw_gL hx hb hts hown hKW.1 hP (i := 10) (by omega) (n := L9) hL.symm lf_Lw_100 d_Lw_cutIntoPieces_28 ?_
      refine lv_if_le (tgt := 61) hx hb d_Lw_cutIntoPieces_31 (by decide) (fun c31 => ?_) (fun c31 => ?_)
      · skip
        have c31 : L9 ≤ 0 := (nI_leI (by omega) (by omega)).mp (by rw [nI_0]; exact c31)
        have hvP : v < P ^ n := by
          have h0 := hz9.mp (by omega)
          have h1 := Nat.div_add_mod v (P ^ n)
          have h2 := Nat.mod_lt v hPp
          rw [h0, Nat.mul_zero] at h1
          omega
        refine lv_iload_n hx hb d_Lw_cutIntoPieces_61 rfl (lv_at hl 0 rfl) ?_
        exact W.iret (v := nI (n)) hx hb hr (fun t ht hW => ⟨⟨_, w3, rfl, ⟨n, rfl, hn1, by omega, hvP, hlo, hE, hpc⟩, BW_of ht hP⟩, hS.F ht⟩) hS.2.2 d_Lw_cutIntoPieces_62
      · skip
        have c31 : ¬ (L9 ≤ 0) := fun h => c31 (by have := (nI_leI (by omega) (by omega)).mpr h; rwa [nI_0] at this)
        refine lv_iload_n hx hb d_Lw_cutIntoPieces_34 rfl (lv_at hl 0 rfl) ?_
        refine lv_sipush (v := nI (4800)) hx hb d_Lw_cutIntoPieces_35 (by decide) ?_
        refine lv_icmp_ge (tgt := 61) hx hb d_Lw_cutIntoPieces_38 (by decide) (fun c38 => ?_) (fun c38 => ?_)
        · skip
          have hvP : v < P ^ n := by rw [show n = 4800 by omega]; exact hv9
          refine lv_iload_n hx hb d_Lw_cutIntoPieces_61 rfl (lv_at hl 0 rfl) ?_
          exact W.iret (v := nI (n)) hx hb hr (fun t ht hW => ⟨⟨_, w3, rfl, ⟨n, rfl, hn1, by omega, hvP, hlo, hE, hpc⟩, BW_of ht hP⟩, hS.F ht⟩) hS.2.2 d_Lw_cutIntoPieces_62
        · exact absurd (nI_le (by omega) (by omega)) c38
    | succ mm ih =>
      intro n w3 H locs ls hmm hn1 hlo hE hV hpc hP hD hS hl
      have hPp : 0 < P ^ n := Nat.pow_pos (by omega)
      have hL9 := hV.len
      have hz9 := hV.zero
      obtain ⟨L9, hL⟩ : ∃ L9, L9 = sL w3 10 := ⟨_, rfl⟩
      rw [← hL] at hL9 hz9
      refine lv_aload_n hx hb d_Lw_cutIntoPieces_24 rfl (lv_at hl 1 rfl) ?_
      refine nw_gF1 hx hb hts hown hKW.1 hP lf_Lw_16 d_Lw_cutIntoPieces_25 ?_
      refine nw_gL hx hb hts hown hKW.1 hP (i := 10) (by omega) (n := L9) hL.symm lf_Lw_100 d_Lw_cutIntoPieces_28 ?_
      refine lv_if_le (tgt := 61) hx hb d_Lw_cutIntoPieces_31 (by decide) (fun c31 => ?_) (fun c31 => ?_)
      · skip
        have c31 : L9 ≤ 0 := (nI_leI (by omega) (by omega)).mp (by rw [nI_0]; exact c31)
        have hvP : v < P ^ n := by
          have h0 := hz9.mp (by omega)
          have h1 := Nat.div_add_mod v (P ^ n)
          have h2 := Nat.mod_lt v hPp
          rw [h0, Nat.mul_zero] at h1
          omega
        refine lv_iload_n hx hb d_Lw_cutIntoPieces_61 rfl (lv_at hl 0 rfl) ?_
        exact W.iret (v := nI (n)) hx hb hr (fun t ht hW => ⟨⟨_, w3, rfl, ⟨n, rfl, hn1, by omega, hvP, hlo, hE, hpc⟩, BW_of ht hP⟩, hS.F ht⟩) hS.2.2 d_Lw_cutIntoPieces_62
      · skip
        have c31 : ¬ (L9 ≤ 0) := fun h => c31 (by have := (nI_leI (by omega) (by omega)).mpr h; rwa [nI_0] at this)
        refine lv_iload_n hx hb d_Lw_cutIntoPieces_34 rfl (lv_at hl 0 rfl) ?_
        refine lv_sipush (v := nI (4800)) hx hb d_Lw_cutIntoPieces_35 (by decide) ?_
        refine lv_icmp_ge (tgt := 61) hx hb d_Lw_cutIntoPieces_38 (by decide) (fun c38 => ?_) (fun c38 => ?_)
        · exact absurd c38 (nI_ge (by omega) (by omega))
        · skip
          have hge : P ^ n ≤ v := by
            rcases Nat.lt_or_ge v (P ^ n) with q | q
            · have := hz9.mpr (Nat.div_eq_of_lt q); omega
            · exact q
          refine lv_aload_n hx hb d_Lw_cutIntoPieces_41 rfl (lv_at hl 1 rfl) ?_
          refine nw_gF4 hx hb hts hown hKW.1 hP lf_Lw_34 d_Lw_cutIntoPieces_42 ?_
          refine lv_iload_n hx hb d_Lw_cutIntoPieces_45 rfl (lv_at hl 0 rfl) ?_
          refine lv_aload_n hx hb d_Lw_cutIntoPieces_46 rfl (lv_at hl 1 rfl) ?_
          refine nw_gF1 hx hb hts hown hKW.1 hP lf_Lw_16 d_Lw_cutIntoPieces_47 ?_
          refine lv_iload_n hx hb d_Lw_cutIntoPieces_50 rfl (lv_at hl 3 rfl) ?_
          refine wV_i (As := [.int (nI (P))]) (rest := [.int (nI (n)), .ref (ad 5)]) (n := 1) ⟨hx, hb, hml, hown, hts⟩ (c_Na_reduce l w3 _ (i := 10) (δ := P) (by omega) hV (by omega) (by omega)) (cwV0 1 hts lm_Lw_186 im_Na_reduce se_Na_reduce in_Na kq_Na_reduce rfl rfl rfl (by decide +kernel) ⟨Nat.le_of_ble_eq_true rfl, Nat.le_of_ble_eq_true rfl⟩) (recvN hKW.1 hP (i := 10) (by omega)) hKW hP hD hS rfl hl.1 rfl (Nat.le_of_ble_eq_true rfl) d_Lw_cutIntoPieces_51 ⟨Nat.zero_le _, Nat.zero_le _⟩ (fun r w4 H locs hp hP hD hS => ?_)
          obtain ⟨er, hE4, hV4⟩ := hp
          subst er
          rw [Nat.div_div_eq_div_mul, ← Nat.pow_succ] at hV4
          have hP4 : sP w4 = sP w3 := by show w4.2.2.2.1 = w3.2.2.2.1; rw [(hE4.B (p := [10]) (List.mem_singleton.mpr rfl)).2]
          refine nw_sP hx hb hKW.1 hP hD hS (j := n) (by omega) d_Lw_cutIntoPieces_54 (fun H locs hP hD hS => ?_)
          refine lv_iinc (v := nI (n + 1)) (lv' := [(3, .int (nI (n + 1))), (0, .ref (ad 0)), (1, .ref (ad (2 * a + 8))), (2, .int (nI (P)))]) hx hb d_Lw_cutIntoPieces_55 hl (k := 0) rfl (nI_add _ 1) (by decide) rfl (fun ls hl => ?_)
          refine lv_goto (tgt := 24) hx hb d_Lw_cutIntoPieces_58 (by decide) ?_
          exact ih (n + 1) (pP w4 (upd (sP w4) n (nI (v / P ^ n % P)))) H locs ls (by omega) (by omega) (Or.inr hge) ((hE.trans (hE4.B (List.mem_singleton.mpr rfl)).Q).trans (eqQ_pP _ _ _)) hV4 (fun j hj => by
            show upd (sP w4) n _ j = _
            by_cases q : j = n
            · subst q; rw [pk_us]
            · rw [pk_un q, hP4]; exact hpc j (by omega)) hP hD hS (lv_sub hl [0, 1, 2, 3] rfl)
  exact loop 4799 1 (pP w2 (upd (sP w2) 0 (nI (v % P)))) H locs ls (by omega) (by omega) (Or.inl rfl) (((hE1.B (List.mem_singleton.mpr rfl)).trans (hE2.B (List.mem_singleton.mpr rfl))).Q.trans (eqQ_pP _ _ _)) (by rw [Nat.pow_one]; exact hV2) (fun j hj => by
    rw [show j = 0 by omega, Nat.pow_zero, Nat.div_one]
    exact (show upd (sP w2) 0 (nI (v % P)) 0 = nI (v % P) from pk_us)) hP hD hS hl
set_option maxHeartbeats 4000000 in
set_option maxRecDepth 100000 in
/-- countDigits(pieceCount, base, digits) -/
theorem c_Lw_countDigits (l : Launch) {D : va_G} {cI cB cR : ClassId} {ad : Nat → Nat} (w : St) (sz : Nat) {n b d tp : Nat} (hn1 : 1 ≤ n) (hn : n ≤ 4800) (h2 : 2 ≤ b) (hb9 : b ≤ 36) (hd1 : 1 ≤ d) (hd9 : d ≤ 31) (htp : sP w (n - 1) = nI tp) (ht9 : tp ≤ 2147483647) (htd : tp < b ^ d) : Met l y_Lw_countDigits (q_Lw_countDigits :: wA) { frames := 0, cells := 0, slots := 0, locals := 0 } (va_Pc [.ref (ad 0), .int (nI (n)), .int (nI (b)), .int (nI (d))] (PW D cI cB cR ad w sz)) (va_Qi (fun (r : Int32) (w1 : St) => r = nI ((n - 1) * d + ndg b tp) ∧ w1 = w) (BW D cI cB cR ad) (AA ad sz)) 0 0 (AA ad sz) := by
  refine Met.ofW (cc := b_Lw_countDigits) (maxL := 7) (ret := (some (.int))) (by decide) rfl ?_
  intro p e s m args below meth c s₁ B hml hv
  obtain ⟨rfl, hsz, hP, hD0, hKW⟩ := hv
  have hx := B.exec
  have hb := B.bytes
  have hr := B.returns
  have hts := atoms_spec (ws := q_Lw_countDigits :: wA) B.pre
  have hown : s.vm.findClass R_Lw = some m.cls := findClass_of_methodNamed B.named
  have hlocks := B.notSynchronized
  subst hsz
  have hD := NC_AA (sz := s.heap.size) hD0
  have hS : va_S (AA ad s.heap.size) s.heap s.heap [] := va_S.rf
  have hl := lv_entry ([.ref (ad 0), .int (nI (n)), .int (nI (b)), .int (nI (d))]) (n := 7) (Nat.le_of_ble_eq_true rfl)
  rw [lg_entry_eq]
  generalize (lg_sl ([.ref (ad 0), .int (nI (n)), .int (nI (b)), .int (nI (d))]) ++ List.replicate (7 - (lg_sl ([.ref (ad 0), .int (nI (n)), .int (nI (b)), .int (nI (d))])).length) Slot.unset).toArray = ls at hl ⊢
  have hl : lv_has ls 7 [(0, .ref (ad 0)), (1, .int (nI (n))), (2, .int (nI (b))), (3, .int (nI (d)))] := hl
  have hdl : ∀ j, tp / b ^ j ≤ 2147483647 := fun j => Nat.le_trans (Nat.div_le_self _ _) ht9
  refine lv_iload_n hx hb d_Lw_countDigits_0 rfl (lv_at hl 1 rfl) ?_
  refine lv_iconst (v := nI (1)) hx hb d_Lw_countDigits_1 (by decide) ?_
  refine nw_isub (v := nI (n - 1)) hx hb d_Lw_countDigits_2 (pk_sub (by omega)) ?_
  refine lv_iload_n hx hb d_Lw_countDigits_3 rfl (lv_at hl 3 rfl) ?_
  refine nw_imul (v := nI ((n - 1) * d)) hx hb d_Lw_countDigits_4 (pk_mul _ _) ?_
  refine lv_iconst (v := nI (1)) hx hb d_Lw_countDigits_5 (by decide) ?_
  refine nw_iadd (v := nI ((n - 1) * d + 1)) hx hb d_Lw_countDigits_6 (nI_add _ _) ?_
  refine lv_istore (lv' := [(4, .int (nI ((n - 1) * d + 1))), (0, .ref (ad 0)), (1, .int (nI (n))), (2, .int (nI (b))), (3, .int (nI (d)))]) hx hb d_Lw_countDigits_7 hl (by decide) rfl (fun ls hl => ?_)
  refine lv_aload_n hx hb d_Lw_countDigits_9 rfl (lv_at hl 1 rfl) ?_
  refine nw_gF4 hx hb hts hown hKW.1 hP lf_Lw_34 d_Lw_countDigits_10 ?_
  refine lv_iload_n hx hb d_Lw_countDigits_13 rfl (lv_at hl 2 rfl) ?_
  refine lv_iconst (v := nI (1)) hx hb d_Lw_countDigits_14 (by decide) ?_
  refine nw_isub (v := nI (n - 1)) hx hb d_Lw_countDigits_15 (pk_sub (by omega)) ?_
  refine nw_lP hx hb hKW.1 hP (j := n - 1) (by omega) (x := nI tp) htp d_Lw_countDigits_16 ?_
  refine lv_iload_n hx hb d_Lw_countDigits_17 rfl (lv_at hl 3 rfl) ?_
  refine nw_idiv (v := nI (tp / b)) hx hb d_Lw_countDigits_18 (nI_ne0 (by omega) (by omega)) (pk_div (by omega) (by omega) (by omega)) ?_
  refine lv_istore (lv' := [(5, .int (nI (tp / b))), (4, .int (nI ((n - 1) * d + 1))), (0, .ref (ad 0)), (1, .int (nI (n))), (2, .int (nI (b))), (3, .int (nI (d)))]) hx hb d_Lw_countDigits_19 hl (by decide) rfl (fun ls hl => ?_)
  refine lv_iconst (v := nI (1)) hx hb d_Lw_countDigits_21 (by decide) ?_
  refine lv_istore (lv' := [(6, .int (nI (1))), (5, .int (nI (tp / b))), (4, .int (nI ((n - 1) * d + 1))), (0, .ref (ad 0)), (1, .int (nI (n))), (2, .int (nI (b))), (3, .int (nI (d)))]) hx hb d_Lw_countDigits_22 hl (by decide) rfl (fun ls hl => ?_)
  have loop : ∀ (mm j : Nat) (ls : Array Slot), j + mm = d → 1 ≤ j → (j = 1 ∨ b ^ (j - 1) ≤ tp) → lv_has ls 7 [(6, .int (nI (j))), (5, .int (nI (tp / b ^ j))), (4, .int (nI ((n - 1) * d + j))), (0, .ref (ad 0)), (1, .int (nI (n))), (2, .int (nI (b))), (3, .int (nI (d)))] → W p l e (headSpec (q_Lw_countDigits :: wA) { frames := 0, cells := 0, slots := 0, locals := 0 }).room s m ([.ref (ad 0), .int (nI (n)), .int (nI (b)), .int (nI (d))] : List Value).toArray below meth c s.heap [] 0 0 (MQ below (va_Qi (fun (r : Int32) (w1 : St) => r = nI ((n - 1) * d + ndg b tp) ∧ w1 = w) (BW D cI cB cR ad) (AA ad s.heap.size)) ([.ref (ad 0), .int (nI (n)), .int (nI (b)), .int (nI (d))] : List Value).toArray s 0 0 (AA ad s.heap.size)) (F0 m 24 ls []) := by
    intro mm
    induction mm with
    | zero =>
      intro j ls hj hj1 hlo hl
      refine lv_iload hx hb d_Lw_countDigits_24 (lv_at hl 0 rfl) ?_
      refine lv_iload_n hx hb d_Lw_countDigits_26 rfl (lv_at hl 6 rfl) ?_
      refine lv_icmp_ge (tgt := 50) hx hb d_Lw_countDigits_27 (by decide) (fun c27 => ?_) (fun c27 => ?_)
      · skip
        refine lv_iload hx hb d_Lw_countDigits_50 (lv_at hl 2 rfl) ?_
        exact W.iret (v := nI ((n - 1) * d + j)) hx hb hr (fun t ht hW => ⟨⟨_, w, rfl, ⟨by rw [ndg_eq h2 hj1 (by rw [show j = d by omega]; exact htd) hlo], rfl⟩, BW_of ht hP⟩, hS.F ht⟩) hS.2.2 d_Lw_countDigits_52
      · exact absurd (nI_le (by omega) (by omega)) c27
    | succ mm ih =>
      intro j ls hj hj1 hlo hl
      have hd8 := hdl j
      have hbp : 0 < b ^ j := Nat.pow_pos (by omega)
      refine lv_iload hx hb d_Lw_countDigits_24 (lv_at hl 0 rfl) ?_
      refine lv_iload_n hx hb d_Lw_countDigits_26 rfl (lv_at hl 6 rfl) ?_
      refine lv_icmp_ge (tgt := 50) hx hb d_Lw_countDigits_27 (by decide) (fun c27 => ?_) (fun c27 => ?_)
      · exact absurd c27 (nI_ge (by omega) (by omega))
      · skip
        obtain ⟨t9, ht⟩ : ∃ t9, t9 = tp / b ^ j := ⟨_, rfl⟩
        rw [← ht] at hl hd8
        refine lv_iload hx hb d_Lw_countDigits_30 (lv_at hl 1 rfl) ?_
        refine lv_if_le (tgt := 50) hx hb d_Lw_countDigits_32 (by decide) (fun c32 => ?_) (fun c32 => ?_)
        · skip
          have c32 : t9 ≤ 0 := (nI_leI (by omega) (by omega)).mp (by rw [nI_0]; exact c32)
          refine lv_iload hx hb d_Lw_countDigits_50 (lv_at hl 2 rfl) ?_
          have hlt : tp < b ^ j := by
            have h1 := Nat.div_add_mod tp (b ^ j)
            have h3 := Nat.mod_lt tp hbp
            rw [← ht, show t9 = 0 by omega, Nat.mul_zero] at h1
            omega
          exact W.iret (v := nI ((n - 1) * d + j)) hx hb hr (fun t ht hW => ⟨⟨_, w, rfl, ⟨by rw [ndg_eq h2 hj1 hlt hlo], rfl⟩, BW_of ht hP⟩, hS.F ht⟩) hS.2.2 d_Lw_countDigits_52
        · skip
          have c32 : ¬ (t9 ≤ 0) := fun h => c32 (by have := (nI_leI (by omega) (by omega)).mpr h; rwa [nI_0] at this)
          have hge : b ^ j ≤ tp := by
            rcases Nat.lt_or_ge tp (b ^ j) with q | q
            · rw [Nat.div_eq_of_lt q] at ht; omega
            · exact q
          refine lv_iload hx hb d_Lw_countDigits_35 (lv_at hl 1 rfl) ?_
          refine lv_iload_n hx hb d_Lw_countDigits_37 rfl (lv_at hl 5 rfl) ?_
          refine nw_idiv (v := nI (t9 / b)) hx hb d_Lw_countDigits_38 (nI_ne0 (by omega) (by omega)) (pk_div (by omega) (by omega) (by omega)) ?_
          refine lv_istore (lv' := [(5, .int (nI (t9 / b))), (6, .int (nI (j))), (4, .int (nI ((n - 1) * d + j))), (0, .ref (ad 0)), (1, .int (nI (n))), (2, .int (nI (b))), (3, .int (nI (d)))]) hx hb d_Lw_countDigits_39 hl (by decide) rfl (fun ls hl => ?_)
          refine lv_iinc (v := nI ((n - 1) * d + j + 1)) (lv' := [(4, .int (nI ((n - 1) * d + j + 1))), (5, .int (nI (t9 / b))), (6, .int (nI (j))), (0, .ref (ad 0)), (1, .int (nI (n))), (2, .int (nI (b))), (3, .int (nI (d)))]) hx hb d_Lw_countDigits_41 hl (k := 2) rfl (nI_add _ 1) (by decide) rfl (fun ls hl => ?_)
          refine lv_iinc (v := nI (j + 1)) (lv' := [(6, .int (nI (j + 1))), (4, .int (nI ((n - 1) * d + j + 1))), (5, .int (nI (t9 / b))), (0, .ref (ad 0)), (1, .int (nI (n))), (2, .int (nI (b))), (3, .int (nI (d)))]) hx hb d_Lw_countDigits_44 hl (k := 2) rfl (nI_add _ 1) (by decide) rfl (fun ls hl => ?_)
          refine lv_goto (tgt := 24) hx hb d_Lw_countDigits_47 (by decide) ?_
          have ht2 : t9 / b = tp / b ^ (j + 1) := by rw [ht, Nat.div_div_eq_div_mul, ← Nat.pow_succ]
          rw [ht2] at hl
          exact ih (j + 1) ls (by omega) (by omega) (Or.inr hge) (lv_sub hl [0, 2, 1, 3, 4, 5, 6] rfl)
  exact loop (d - 1) 1 ls (by omega) (by omega) (Or.inl rfl) (by rw [Nat.pow_one]; exact (lv_sub hl [0, 1, 2, 3, 4, 5, 6] rfl))

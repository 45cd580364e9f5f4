/-! NUMBERS: the contracts of Natural, 7: moves (rows laid by wip/whole/gen/c_na7.py) -/
set_option maxHeartbeats 4000000 in
set_option maxRecDepth 100000 in
/-- moveUp(a, whole, part) -/
theorem c_Na_moveUp (l : Launch) {D : va_G} {cI cB cR : ClassId} {ad : Nat → Nat} (w : St) (sz : Nat) {i a v wh pt : Nat} (hi : i < 14) (ha : a < 14) (hv : NV w a v) (hpt : pt < 32) (hfit : sL w a + wh + 1 ≤ 6272) : Met l y_Na_moveUp (q_Na_moveUp :: wA) { frames := 2, cells := 0, slots := 0, locals := 64 } (va_Pc [.ref (ad (2 * i + 8)), .ref (ad (2 * a + 8)), .int (nI (wh)), .int (nI (pt))] (PW D cI cB cR ad w sz)) (va_Qv (fun w1 : St => eqN w w1 i ∧ NV w1 i (v * 2 ^ (32 * wh + pt))) (BW D cI cB cR ad) (AA ad sz)) 0 0 (AA ad sz) := by
  refine Met.ofW (cc := b_Na_moveUp) (maxL := 8) (ret := none) (by decide) rfl ?_
  intro p e s m args below meth c s₁ B hml hv
  obtain ⟨rfl, hsz, hP, hD0, hKW⟩ := hv
  have hx := B.exec
  have hb := B.bytes
  have hr := B.returns
  have hts := atoms_spec (ws := q_Na_moveUp :: wA) B.pre
  have hown : s.vm.findClass R_Na = some m.cls := findClass_of_methodNamed B.named
  have hlocks := B.notSynchronized
  subst hsz
  have hD := NC_AA (sz := s.heap.size) hD0
  have hS : va_S (AA ad s.heap.size) s.heap s.heap [] := va_S.rf
  have hl := lv_entry ([.ref (ad (2 * i + 8)), .ref (ad (2 * a + 8)), .int (nI (wh)), .int (nI (pt))]) (n := 8) (Nat.le_of_ble_eq_true rfl)
  rw [lg_entry_eq]
  generalize (lg_sl ([.ref (ad (2 * i + 8)), .ref (ad (2 * a + 8)), .int (nI (wh)), .int (nI (pt))]) ++ List.replicate (8 - (lg_sl ([.ref (ad (2 * i + 8)), .ref (ad (2 * a + 8)), .int (nI (wh)), .int (nI (pt))])).length) Slot.unset).toArray = ls at hl ⊢
  have hl : lv_has ls 8 [(0, .ref (ad (2 * i + 8))), (1, .ref (ad (2 * a + 8))), (2, .int (nI (wh))), (3, .int (nI (pt)))] := hl
  obtain ⟨L, hL⟩ : ∃ L, L = sL w a := ⟨_, rfl⟩
  rw [← hL] at hfit
  refine lv_aload_n hx hb d_Na_moveUp_0 rfl (lv_at hl 1 rfl) ?_
  refine nw_gL hx hb hts hown hKW.1 hP (i := a) (by omega) (n := L) hL.symm lf_Na_15 d_Na_moveUp_1 ?_
  refine lv_istore (lv' := [(4, .int (nI (L))), (0, .ref (ad (2 * i + 8))), (1, .ref (ad (2 * a + 8))), (2, .int (nI (wh))), (3, .int (nI (pt)))]) hx hb d_Na_moveUp_4 hl (by decide) rfl (fun ls hl => ?_)
  refine lv_iload hx hb d_Na_moveUp_6 (lv_at hl 0 rfl) ?_
  refine lv_if_ne (tgt := 17) hx hb d_Na_moveUp_8 (by decide) (fun c8 => ?_) (fun c8 => ?_)
  · skip
    have c8 : ¬ (L = 0) := fun h => c8 (by have := (nI_eq (by omega) (by omega)).mpr h; rwa [nI_0] at this)
    refine lv_iconst (v := nI (0)) hx hb d_Na_moveUp_17 (by decide) ?_
    refine lv_istore (lv' := [(5, .int (nI (0))), (4, .int (nI (L))), (0, .ref (ad (2 * i + 8))), (1, .ref (ad (2 * a + 8))), (2, .int (nI (wh))), (3, .int (nI (pt)))]) hx hb d_Na_moveUp_18 hl (by decide) rfl (fun ls hl => ?_)
    refine lv_iload hx hb d_Na_moveUp_20 (lv_at hl 1 rfl) ?_
    refine lv_iconst (v := nI (1)) hx hb d_Na_moveUp_22 (by decide) ?_
    refine nw_isub (v := dn L) hx hb d_Na_moveUp_23 (dn_sub _) ?_
    refine lv_istore (lv' := [(6, .int (dn L)), (5, .int (nI (0))), (4, .int (nI (L))), (0, .ref (ad (2 * i + 8))), (1, .ref (ad (2 * a + 8))), (2, .int (nI (wh))), (3, .int (nI (pt)))]) hx hb d_Na_moveUp_24 hl (by decide) rfl (fun ls hl => ?_)
    have loop : ∀ (k : Nat) (f : Nat → Int32) (A : Int32) (n : Nat) (H : Heap) (locs : List Loc) (ls : Array Slot), k + n = L → vN (sW w a) k n * 2 ^ pt = wN A * 2 ^ pt % 4294967296 + 4294967296 * vN f (k + wh + 1) n → (∀ q, q < k + wh + 1 → f q = sW w i q) → va_P D clA (NC cI cB cR ad (pW w i f)) H → va_D (AA ad s.heap.size) (NC cI cB cR ad (pW w i f)) → va_S (AA ad s.heap.size) s.heap H locs → lv_has ls 8 [(6, .int (dn k)), (5, .int (A)), (4, .int (nI (L))), (0, .ref (ad (2 * i + 8))), (1, .ref (ad (2 * a + 8))), (2, .int (nI (wh))), (3, .int (nI (pt)))] → W p l e (headSpec (q_Na_moveUp :: wA) { frames := 2, cells := 0, slots := 0, locals := 64 }).room s m ([.ref (ad (2 * i + 8)), .ref (ad (2 * a + 8)), .int (nI (wh)), .int (nI (pt))] : List Value).toArray below meth c H locs 0 0 (MQ below (va_Qv (fun w1 : St => eqN w w1 i ∧ NV w1 i (v * 2 ^ (32 * wh + pt))) (BW D cI cB cR ad) (AA ad s.heap.size)) ([.ref (ad (2 * i + 8)), .ref (ad (2 * a + 8)), .int (nI (wh)), .int (nI (pt))] : List Value).toArray s 0 0 (AA ad s.heap.size)) (F0 m 26 ls []) := by
      intro k
      induction k with
      | zero =>
        intro f A n H locs ls hj hinv hf hP hD hS hl
        refine lv_iload hx hb d_Na_moveUp_26 (lv_at hl 0 rfl) ?_
        refine lv_if_lt (tgt := 82) hx hb d_Na_moveUp_28 (by decide) (fun c28 => ?_) (fun c28 => ?_)
        · skip
          have en : L = n := by omega
          subst en
          refine lv_aload_n hx hb d_Na_moveUp_82 rfl (lv_at hl 3 rfl) ?_
          refine nw_gW hx hb hts hown hKW.1 hP (i := i) (by omega) lf_Na_9 d_Na_moveUp_83 ?_
          refine lv_iload_n hx hb d_Na_moveUp_86 rfl (lv_at hl 5 rfl) ?_
          refine lv_iload hx hb d_Na_moveUp_87 (lv_at hl 1 rfl) ?_
          refine lv_iload_n hx hb d_Na_moveUp_89 rfl (lv_at hl 6 rfl) ?_
          refine nw_ishl (v := sl A pt) hx hb d_Na_moveUp_90 rfl ?_
          refine nw_sW hx hb hKW.1 hP hD hS (i := i) (by omega) (j := wh) (by omega) d_Na_moveUp_91 (fun H locs hP hD hS => ?_)
          refine lv_aload_n hx hb d_Na_moveUp_92 rfl (lv_at hl 3 rfl) ?_
          refine nw_gW hx hb hts hown hKW.1 hP (i := i) (by omega) lf_Na_9 d_Na_moveUp_93 ?_
          refine lv_iconst (v := nI (0)) hx hb d_Na_moveUp_96 (by decide) ?_
          refine lv_iload_n hx hb d_Na_moveUp_97 rfl (lv_at hl 5 rfl) ?_
          refine lv_iconst (v := nI (0)) hx hb d_Na_moveUp_98 (by decide) ?_
          refine wS_v (As := [.ref (ad (2 * i + 9)), .int (nI (0)), .int (nI (wh)), .int (nI (0))]) (rest := []) (n := 4) ⟨hx, hb, hml, hown, hts⟩ (c_Ja_fillW l (pW (pW w i f) i (upd (sW (pW w i f) i) (wh) (sl A pt))) _ (i := i) (a := 0) (b := wh) hi (by omega) (by omega) (nI 0)) (cwS0 4 hts lm_Na_42 st_Ja_fill in_Ja kq_Ja_fill rfl rfl rfl (by decide +kernel) ⟨Nat.le_of_ble_eq_true rfl, Nat.le_of_ble_eq_true rfl⟩) hKW hP hD hS rfl hl.1 rfl (Nat.le_of_ble_eq_true rfl) d_Na_moveUp_99 ⟨Nat.zero_le _, Nat.zero_le _⟩ (fun w1 H locs hp hP hD hS => ?_)
          simp only [sW_pW, pW_pW] at hp
          rw [hp] at hP hD
          refine lv_aload_n hx hb d_Na_moveUp_102 rfl (lv_at hl 3 rfl) ?_
          refine lv_iload hx hb d_Na_moveUp_103 (lv_at hl 2 rfl) ?_
          refine lv_iload_n hx hb d_Na_moveUp_105 rfl (lv_at hl 5 rfl) ?_
          refine nw_iadd (v := nI (L + wh)) hx hb d_Na_moveUp_106 (nI_add _ _) ?_
          refine lv_iconst (v := nI (1)) hx hb d_Na_moveUp_107 (by decide) ?_
          refine nw_iadd (v := nI (L + wh + 1)) hx hb d_Na_moveUp_108 (nI_add _ _) ?_
          refine wV_v (As := [.int (nI (L + wh + 1))]) (rest := []) (n := 1) ⟨hx, hb, hml, hown, hts⟩ (c_Na_trim l (pW w i (fl (upd f wh (sl A pt)) 0 wh (nI 0))) _ (i := i) (n := L + wh + 1) hi (by omega)) (cwV0 1 hts lm_Na_23 im_Na_trim se_Na_trim in_Na kq_Na_trim rfl rfl rfl (by decide +kernel) ⟨Nat.le_of_ble_eq_true rfl, Nat.le_of_ble_eq_true rfl⟩) (recvN hKW.1 hP (i := i) (by omega)) hKW hP hD hS rfl hl.1 rfl (Nat.le_of_ble_eq_true rfl) d_Na_moveUp_109 ⟨Nat.zero_le _, Nat.zero_le _⟩ (fun w2 H locs hp hP hD hS => ?_)
          simp only [sW_pW, pW_pW] at hp
          have e2 := mu_end (v := v) hpt hinv (by rw [hL]; exact hv.2.2)
          exact W.vret hx hb hr (fun t ht hW => ⟨⟨w2, rfl, ⟨by rw [hp]; exact eqN_tr w i _ _, by rw [hp]; have := NV_tr (w := w) (i := i) (n := L + wh + 1) (f := fl (upd f wh (sl A pt)) 0 wh (nI 0)) (by omega); rw [e2] at this; exact this⟩, BW_of ht hP⟩, hS.F ht⟩) hS.2.2 d_Na_moveUp_112
        · exact absurd dn_0 c28
      | succ k ih =>
        intro f A n H locs ls hj hinv hf hP hD hS hl
        rw [show k + 1 + wh + 1 = k + wh + 1 + 1 by omega] at hinv
        refine lv_iload hx hb d_Na_moveUp_26 (lv_at hl 0 rfl) ?_
        refine lv_if_lt (tgt := 82) hx hb d_Na_moveUp_28 (by decide) (fun c28 => ?_) (fun c28 => ?_)
        · exact absurd c28 (nI_pos (by omega))
        · skip
          refine lv_aload_n hx hb d_Na_moveUp_31 rfl (lv_at hl 4 rfl) ?_
          refine nw_gW hx hb hts hown hKW.1 hP (i := a) (by omega) lf_Na_9 d_Na_moveUp_32 ?_
          refine lv_iload hx hb d_Na_moveUp_35 (lv_at hl 0 rfl) ?_
          refine nw_lW hx hb hKW.1 hP (i := a) (by omega) (j := k) (by omega) (x := sW w a k) (rdX (hf k (by omega))) d_Na_moveUp_37 ?_
          refine lv_istore (lv' := [(7, .int (sW w a k)), (6, .int (nI (k))), (5, .int (A)), (4, .int (nI (L))), (0, .ref (ad (2 * i + 8))), (1, .ref (ad (2 * a + 8))), (2, .int (nI (wh))), (3, .int (nI (pt)))]) hx hb d_Na_moveUp_38 hl (by decide) rfl (fun ls hl => ?_)
          refine lv_aload_n hx hb d_Na_moveUp_40 rfl (lv_at hl 4 rfl) ?_
          refine nw_gW hx hb hts hown hKW.1 hP (i := i) (by omega) lf_Na_9 d_Na_moveUp_41 ?_
          refine lv_iload hx hb d_Na_moveUp_44 (lv_at hl 1 rfl) ?_
          refine lv_iload_n hx hb d_Na_moveUp_46 rfl (lv_at hl 6 rfl) ?_
          refine nw_iadd (v := nI (k + wh)) hx hb d_Na_moveUp_47 (nI_add _ _) ?_
          refine lv_iconst (v := nI (1)) hx hb d_Na_moveUp_48 (by decide) ?_
          refine nw_iadd (v := nI (k + wh + 1)) hx hb d_Na_moveUp_49 (nI_add _ _) ?_
          refine lv_iload_n hx hb d_Na_moveUp_50 rfl (lv_at hl 7 rfl) ?_
          refine lv_if_ne (tgt := 59) hx hb d_Na_moveUp_51 (by decide) (fun c51 => ?_) (fun c51 => ?_)
          · skip
            have c51 : ¬ (pt = 0) := fun h => c51 (by have := (nI_eq (by omega) (by omega)).mpr h; rwa [nI_0] at this)
            refine lv_iload hx hb d_Na_moveUp_59 (lv_at hl 2 rfl) ?_
            refine lv_iload_n hx hb d_Na_moveUp_61 rfl (lv_at hl 7 rfl) ?_
            refine nw_ishl (v := sl A pt) hx hb d_Na_moveUp_62 rfl ?_
            refine lv_iload hx hb d_Na_moveUp_63 (lv_at hl 0 rfl) ?_
            refine lv_bipush (v := nI (32)) hx hb d_Na_moveUp_65 (by decide) ?_
            refine lv_iload_n hx hb d_Na_moveUp_67 rfl (lv_at hl 7 rfl) ?_
            refine nw_isub (v := nI (32 - pt)) hx hb d_Na_moveUp_68 (pk_sub (by omega)) ?_
            refine lv_iushr (v := us (sW w a k) (32 - pt)) hx hb d_Na_moveUp_69 rfl ?_
            refine nw_ior (v := (sl A pt) ||| (us (sW w a k) (32 - pt))) hx hb d_Na_moveUp_70 rfl ?_
            refine nw_sW hx hb hKW.1 hP hD hS (i := i) (by omega) (j := k + wh + 1) (by omega) d_Na_moveUp_71 (fun H locs hP hD hS => ?_)
            refine lv_iload hx hb d_Na_moveUp_72 (lv_at hl 0 rfl) ?_
            refine lv_istore (lv' := [(5, .int (sW w a k)), (7, .int (sW w a k)), (6, .int (nI (k))), (4, .int (nI (L))), (0, .ref (ad (2 * i + 8))), (1, .ref (ad (2 * a + 8))), (2, .int (nI (wh))), (3, .int (nI (pt)))]) hx hb d_Na_moveUp_74 hl (by decide) rfl (fun ls hl => ?_)
            refine lv_iinc (v := dn k) (lv' := [(6, .int (dn k)), (5, .int (sW w a k)), (7, .int (sW w a k)), (4, .int (nI (L))), (0, .ref (ad (2 * i + 8))), (1, .ref (ad (2 * a + 8))), (2, .int (nI (wh))), (3, .int (nI (pt)))]) hx hb d_Na_moveUp_76 hl (k := 2) rfl (dn_dec k) (by decide) rfl (fun ls hl => ?_)
            refine lv_goto (tgt := 26) hx hb d_Na_moveUp_79 (by decide) ?_
            rw [sW_pW, pW_pW, show (sl A pt ||| us (sW w a k) (32 - pt)) = upw pt A (sW w a k) from (if_neg c51).symm] at hP hD
            exact ih (upd f (k + wh + 1) (upw pt A (sW w a k))) (sW w a k) (n + 1) H locs ls (by omega) (mu_step hpt hinv rfl) (fun q hq => by rw [pk_un (by omega)]; exact hf q (by omega)) hP hD hS (lv_sub hl [0, 1, 3, 4, 5, 6, 7] rfl)
          · skip
            have c51 : pt = 0 := (nI_eq (by omega) (by omega)).mp (by rw [nI_0]; exact c51)
            refine lv_iload hx hb d_Na_moveUp_54 (lv_at hl 2 rfl) ?_
            refine lv_goto (tgt := 71) hx hb d_Na_moveUp_56 (by decide) ?_
            refine nw_sW hx hb hKW.1 hP hD hS (i := i) (by omega) (j := k + wh + 1) (by omega) d_Na_moveUp_71 (fun H locs hP hD hS => ?_)
            refine lv_iload hx hb d_Na_moveUp_72 (lv_at hl 0 rfl) ?_
            refine lv_istore (lv' := [(5, .int (sW w a k)), (7, .int (sW w a k)), (6, .int (nI (k))), (4, .int (nI (L))), (0, .ref (ad (2 * i + 8))), (1, .ref (ad (2 * a + 8))), (2, .int (nI (wh))), (3, .int (nI (pt)))]) hx hb d_Na_moveUp_74 hl (by decide) rfl (fun ls hl => ?_)
            refine lv_iinc (v := dn k) (lv' := [(6, .int (dn k)), (5, .int (sW w a k)), (7, .int (sW w a k)), (4, .int (nI (L))), (0, .ref (ad (2 * i + 8))), (1, .ref (ad (2 * a + 8))), (2, .int (nI (wh))), (3, .int (nI (pt)))]) hx hb d_Na_moveUp_76 hl (k := 2) rfl (dn_dec k) (by decide) rfl (fun ls hl => ?_)
            refine lv_goto (tgt := 26) hx hb d_Na_moveUp_79 (by decide) ?_
            rw [sW_pW, pW_pW, show (A) = upw pt A (sW w a k) from (if_pos c51).symm] at hP hD
            exact ih (upd f (k + wh + 1) (upw pt A (sW w a k))) (sW w a k) (n + 1) H locs ls (by omega) (mu_step hpt hinv rfl) (fun q hq => by rw [pk_un (by omega)]; exact hf q (by omega)) hP hD hS (lv_sub hl [0, 1, 3, 4, 5, 6, 7] rfl)
    have e0 : pW w i (sW w i) = w := pW_self w i
    exact loop L (sW w i) (nI 0) 0 _ _ ls (by omega) (by show 0 * 2 ^ pt = wN (nI 0) * 2 ^ pt % 4294967296 + 4294967296 * 0; rw [nI_0, wN_0, Nat.zero_mul]) (fun _ _ => rfl) (by rw [e0]; exact hP) (by rw [e0]; exact hD) hS (lv_sub hl [0, 1, 2, 3, 4, 5, 6] rfl)
  · skip
    have c8 : L = 0 := (nI_eq (by omega) (by omega)).mp (by rw [nI_0]; exact c8)
    refine lv_aload_n hx hb d_Na_moveUp_11 rfl (lv_at hl 1 rfl) ?_
    refine lv_iconst (v := nI (0)) hx hb d_Na_moveUp_12 (by decide) ?_
    refine nw_pL hx hb hts hown hKW.1 hP hD hS (i := i) (by omega) lf_Na_15 d_Na_moveUp_13 (fun H locs hP hD hS => ?_)
    have hz : v = 0 := hv.zero.mp (by omega)
    exact W.vret hx hb hr (fun t ht hW => ⟨⟨pL w i 0, rfl, ⟨eqN_pL w i 0, by rw [hz, Nat.zero_mul]; exact NV_0 w i⟩, BW_of ht hP⟩, hS.F ht⟩) hS.2.2 d_Na_moveUp_16
set_option maxHeartbeats 4000000 in
set_option maxRecDepth 100000 in
/-- moveDown(a, whole, part) -/
theorem c_Na_moveDown (l : Launch) {D : va_G} {cI cB cR : ClassId} {ad : Nat → Nat} (w : St) (sz : Nat) {i a v wh pt : Nat} (hi : i < 14) (ha : a < 14) (hv : NV w a v) (hpt : pt < 32) (hwh : wh < 2 ^ 30) : Met l y_Na_moveDown (q_Na_moveDown :: wA) { frames := 1, cells := 0, slots := 0, locals := 40 } (va_Pc [.ref (ad (2 * i + 8)), .ref (ad (2 * a + 8)), .int (nI (wh)), .int (nI (pt))] (PW D cI cB cR ad w sz)) (va_Qv (fun w1 : St => eqN w w1 i ∧ NV w1 i (v / 2 ^ (32 * wh + pt))) (BW D cI cB cR ad) (AA ad sz)) 0 0 (AA ad sz) := by
  refine Met.ofW (cc := b_Na_moveDown) (maxL := 8) (ret := none) (by decide) rfl ?_
  intro p e s m args below meth c s₁ B hml hv
  obtain ⟨rfl, hsz, hP, hD0, hKW⟩ := hv
  have hx := B.exec
  have hb := B.bytes
  have hr := B.returns
  have hts := atoms_spec (ws := q_Na_moveDown :: wA) B.pre
  have hown : s.vm.findClass R_Na = some m.cls := findClass_of_methodNamed B.named
  have hlocks := B.notSynchronized
  subst hsz
  have hD := NC_AA (sz := s.heap.size) hD0
  have hS : va_S (AA ad s.heap.size) s.heap s.heap [] := va_S.rf
  have hl := lv_entry ([.ref (ad (2 * i + 8)), .ref (ad (2 * a + 8)), .int (nI (wh)), .int (nI (pt))]) (n := 8) (Nat.le_of_ble_eq_true rfl)
  rw [lg_entry_eq]
  generalize (lg_sl ([.ref (ad (2 * i + 8)), .ref (ad (2 * a + 8)), .int (nI (wh)), .int (nI (pt))]) ++ List.replicate (8 - (lg_sl ([.ref (ad (2 * i + 8)), .ref (ad (2 * a + 8)), .int (nI (wh)), .int (nI (pt))])).length) Slot.unset).toArray = ls at hl ⊢
  have hl : lv_has ls 8 [(0, .ref (ad (2 * i + 8))), (1, .ref (ad (2 * a + 8))), (2, .int (nI (wh))), (3, .int (nI (pt)))] := hl
  have hla := hv.len
  obtain ⟨L, hL⟩ : ∃ L, L = sL w a := ⟨_, rfl⟩
  rw [← hL] at hla
  refine lv_iconst (v := nI (0)) hx hb d_Na_moveDown_0 (by decide) ?_
  refine lv_aload_n hx hb d_Na_moveDown_1 rfl (lv_at hl 1 rfl) ?_
  refine nw_gL hx hb hts hown hKW.1 hP (i := a) (by omega) (n := L) hL.symm lf_Na_15 d_Na_moveDown_2 ?_
  refine lv_iload_n hx hb d_Na_moveDown_5 rfl (lv_at hl 2 rfl) ?_
  refine nw_isub (v := nI L - nI wh) hx hb d_Na_moveDown_6 rfl ?_
  refine nw_max hx hb (hml.trans hl.1.symm) hts hown lm_Na_48 (Nat.le_of_ble_eq_true rfl) (Nat.le_of_ble_eq_true rfl) (Nat.zero_le _) (Nat.zero_le _) (mx_sub (by omega) (by omega)) d_Na_moveDown_7 ?_
  refine lv_istore (lv' := [(4, .int (nI (L - wh))), (0, .ref (ad (2 * i + 8))), (1, .ref (ad (2 * a + 8))), (2, .int (nI (wh))), (3, .int (nI (pt)))]) hx hb d_Na_moveDown_10 hl (by decide) rfl (fun ls hl => ?_)
  refine lv_iconst (v := nI (0)) hx hb d_Na_moveDown_12 (by decide) ?_
  refine lv_istore (lv' := [(5, .int (nI (0))), (4, .int (nI (L - wh))), (0, .ref (ad (2 * i + 8))), (1, .ref (ad (2 * a + 8))), (2, .int (nI (wh))), (3, .int (nI (pt)))]) hx hb d_Na_moveDown_13 hl (by decide) rfl (fun ls hl => ?_)
  obtain ⟨al, hal⟩ : ∃ al : Nat → Int32, al = fun j => if j < L - wh then sW w a (j + wh) else 0 := ⟨_, rfl⟩
  have hlt : ∀ j, j < L - wh → al j = sW w a (j + wh) := fun j h => by rw [hal]; exact if_pos h
  have hge : ∀ j, ¬ j < L - wh → al j = 0 := fun j h => by rw [hal]; exact if_neg h
  have loop : ∀ (n j : Nat) (f : Nat → Int32) (H : Heap) (locs : List Loc) (ls : Array Slot), j + n = L - wh → vN f 0 j * 2 ^ pt + wN (al 0) % 2 ^ pt = vN (sW w a) wh j + wN (al j) % 2 ^ pt * 4294967296 ^ j → (∀ q, j ≤ q → f q = sW w i q) → va_P D clA (NC cI cB cR ad (pW w i f)) H → va_D (AA ad s.heap.size) (NC cI cB cR ad (pW w i f)) → va_S (AA ad s.heap.size) s.heap H locs → lv_has ls 8 [(5, .int (nI (j))), (4, .int (nI (L - wh))), (0, .ref (ad (2 * i + 8))), (1, .ref (ad (2 * a + 8))), (2, .int (nI (wh))), (3, .int (nI (pt)))] → W p l e (headSpec (q_Na_moveDown :: wA) { frames := 1, cells := 0, slots := 0, locals := 40 }).room s m ([.ref (ad (2 * i + 8)), .ref (ad (2 * a + 8)), .int (nI (wh)), .int (nI (pt))] : List Value).toArray below meth c H locs 0 0 (MQ below (va_Qv (fun w1 : St => eqN w w1 i ∧ NV w1 i (v / 2 ^ (32 * wh + pt))) (BW D cI cB cR ad) (AA ad s.heap.size)) ([.ref (ad (2 * i + 8)), .ref (ad (2 * a + 8)), .int (nI (wh)), .int (nI (pt))] : List Value).toArray s 0 0 (AA ad s.heap.size)) (F0 m 15 ls []) := by
    intro n
    induction n with
    | zero =>
      intro j f H locs ls hj hinv hf hP hD hS hl
      refine lv_iload hx hb d_Na_moveDown_15 (lv_at hl 0 rfl) ?_
      refine lv_iload hx hb d_Na_moveDown_17 (lv_at hl 1 rfl) ?_
      refine lv_icmp_ge (tgt := 93) hx hb d_Na_moveDown_19 (by decide) (fun c19 => ?_) (fun c19 => ?_)
      · skip
        have c19 : L - wh ≤ j := (nI_leI (by omega) (by omega)).mp c19
        have ej : j = L - wh := by omega
        subst ej
        refine lv_aload_n hx hb d_Na_moveDown_93 rfl (lv_at hl 2 rfl) ?_
        refine lv_iload hx hb d_Na_moveDown_94 (lv_at hl 1 rfl) ?_
        refine wV_v (As := [.int (nI (L - wh))]) (rest := []) (n := 1) ⟨hx, hb, hml, hown, hts⟩ (c_Na_trim l (pW w i f) _ (i := i) (n := L - wh) hi (by omega)) (cwV0 1 hts lm_Na_23 im_Na_trim se_Na_trim in_Na kq_Na_trim rfl rfl rfl (by decide +kernel) ⟨Nat.le_of_ble_eq_true rfl, Nat.le_of_ble_eq_true rfl⟩) (recvN hKW.1 hP (i := i) (by omega)) hKW hP hD hS rfl hl.1 rfl (Nat.le_of_ble_eq_true rfl) d_Na_moveDown_96 ⟨Nat.zero_le _, Nat.zero_le _⟩ (fun w1 H locs hp hP hD hS => ?_)
        simp only [sW_pW, pW_pW] at hp
        rw [hge (L - wh) (by omega), wN_0, Nat.zero_mod, Nat.zero_mul, Nat.add_zero] at hinv
        have e2 := md_end (g := sW w a) (L := L) (v := v) (pt := pt) (by rw [hL]; exact hv.2.2) rfl hinv (Nat.mod_lt _ (Nat.pow_pos (by decide)))
        exact W.vret hx hb hr (fun t ht hW => ⟨⟨w1, rfl, ⟨by rw [hp]; exact eqN_tr w i _ _, by rw [hp]; have := NV_tr (w := w) (i := i) (n := L - wh) (f := f) (by omega); rw [e2] at this; exact this⟩, BW_of ht hP⟩, hS.F ht⟩) hS.2.2 d_Na_moveDown_99
      · exact absurd (nI_le (by omega) (by omega)) c19
    | succ n ih =>
      intro j f H locs ls hj hinv hf hP hD hS hl
      refine lv_iload hx hb d_Na_moveDown_15 (lv_at hl 0 rfl) ?_
      refine lv_iload hx hb d_Na_moveDown_17 (lv_at hl 1 rfl) ?_
      refine lv_icmp_ge (tgt := 93) hx hb d_Na_moveDown_19 (by decide) (fun c19 => ?_) (fun c19 => ?_)
      · exact absurd c19 (nI_ge (by omega) (by omega))
      · skip
        refine lv_aload_n hx hb d_Na_moveDown_22 rfl (lv_at hl 3 rfl) ?_
        refine nw_gW hx hb hts hown hKW.1 hP (i := a) (by omega) lf_Na_9 d_Na_moveDown_23 ?_
        refine lv_iload hx hb d_Na_moveDown_26 (lv_at hl 0 rfl) ?_
        refine lv_iload_n hx hb d_Na_moveDown_28 rfl (lv_at hl 4 rfl) ?_
        refine nw_iadd (v := nI (j + wh)) hx hb d_Na_moveDown_29 (nI_add _ _) ?_
        refine nw_lW hx hb hKW.1 hP (i := a) (by omega) (j := j + wh) (by omega) (x := sW w a (j + wh)) (rdX (hf (j + wh) (by omega))) d_Na_moveDown_30 ?_
        refine lv_istore (lv' := [(6, .int (sW w a (j + wh))), (5, .int (nI (j))), (4, .int (nI (L - wh))), (0, .ref (ad (2 * i + 8))), (1, .ref (ad (2 * a + 8))), (2, .int (nI (wh))), (3, .int (nI (pt)))]) hx hb d_Na_moveDown_31 hl (by decide) rfl (fun ls hl => ?_)
        refine lv_iload hx hb d_Na_moveDown_33 (lv_at hl 1 rfl) ?_
        refine lv_iconst (v := nI (1)) hx hb d_Na_moveDown_35 (by decide) ?_
        refine nw_iadd (v := nI (j + 1)) hx hb d_Na_moveDown_36 (nI_add _ _) ?_
        refine lv_iload hx hb d_Na_moveDown_37 (lv_at hl 2 rfl) ?_
        refine lv_icmp_ge (tgt := 56) hx hb d_Na_moveDown_39 (by decide) (fun c39 => ?_) (fun c39 => ?_)
        · skip
          have c39 : L - wh ≤ j + 1 := (nI_leI (by omega) (by omega)).mp c39
          refine lv_iconst (v := nI (0)) hx hb d_Na_moveDown_56 (by decide) ?_
          refine lv_istore (lv' := [(7, .int (nI (0))), (6, .int (sW w a (j + wh))), (5, .int (nI (j))), (4, .int (nI (L - wh))), (0, .ref (ad (2 * i + 8))), (1, .ref (ad (2 * a + 8))), (2, .int (nI (wh))), (3, .int (nI (pt)))]) hx hb d_Na_moveDown_57 hl (by decide) rfl (fun ls hl => ?_)
          refine lv_aload_n hx hb d_Na_moveDown_59 rfl (lv_at hl 4 rfl) ?_
          refine nw_gW hx hb hts hown hKW.1 hP (i := i) (by omega) lf_Na_9 d_Na_moveDown_60 ?_
          refine lv_iload hx hb d_Na_moveDown_63 (lv_at hl 2 rfl) ?_
          refine lv_iload_n hx hb d_Na_moveDown_65 rfl (lv_at hl 7 rfl) ?_
          refine lv_if_ne (tgt := 74) hx hb d_Na_moveDown_66 (by decide) (fun c66 => ?_) (fun c66 => ?_)
          · skip
            have c66 : ¬ (pt = 0) := fun h => c66 (by have := (nI_eq (by omega) (by omega)).mpr h; rwa [nI_0] at this)
            refine lv_iload hx hb d_Na_moveDown_74 (lv_at hl 1 rfl) ?_
            refine lv_iload_n hx hb d_Na_moveDown_76 rfl (lv_at hl 7 rfl) ?_
            refine lv_iushr (v := us (sW w a (j + wh)) pt) hx hb d_Na_moveDown_77 rfl ?_
            refine lv_iload hx hb d_Na_moveDown_78 (lv_at hl 0 rfl) ?_
            refine lv_bipush (v := nI (32)) hx hb d_Na_moveDown_80 (by decide) ?_
            refine lv_iload_n hx hb d_Na_moveDown_82 rfl (lv_at hl 7 rfl) ?_
            refine nw_isub (v := nI (32 - pt)) hx hb d_Na_moveDown_83 (pk_sub (by omega)) ?_
            refine nw_ishl (v := sl (nI 0) (32 - pt)) hx hb d_Na_moveDown_84 rfl ?_
            refine nw_ior (v := (us (sW w a (j + wh)) pt) ||| (sl (nI 0) (32 - pt))) hx hb d_Na_moveDown_85 rfl ?_
            refine nw_sW hx hb hKW.1 hP hD hS (i := i) (by omega) (j := j) (by omega) d_Na_moveDown_86 (fun H locs hP hD hS => ?_)
            refine lv_iinc (v := nI (j + 1)) (lv' := [(5, .int (nI (j + 1))), (7, .int (nI (0))), (6, .int (sW w a (j + wh))), (4, .int (nI (L - wh))), (0, .ref (ad (2 * i + 8))), (1, .ref (ad (2 * a + 8))), (2, .int (nI (wh))), (3, .int (nI (pt)))]) hx hb d_Na_moveDown_87 hl (k := 2) rfl (nI_add _ 1) (by decide) rfl (fun ls hl => ?_)
            refine lv_goto (tgt := 15) hx hb d_Na_moveDown_90 (by decide) ?_
            rw [sW_pW, pW_pW, show (us (sW w a (j + wh)) pt ||| sl (nI 0) (32 - pt)) = dnw pt (sW w a (j + wh)) (nI 0) from (if_neg c66).symm] at hP hD
            exact ih (j + 1) (upd f j (dnw pt (sW w a (j + wh)) (nI 0))) H locs ls (by omega) (by rw [hlt j (by omega)] at hinv; rw [(hge (j + 1) (by omega)).trans nI_0.symm, md_step hpt hinv, vN_succ, Nat.add_comm wh j]) (fun q hq => by rw [pk_un (by omega)]; exact hf q (by omega)) hP hD hS (lv_sub hl [0, 3, 4, 5, 6, 7] rfl)
          · skip
            have c66 : pt = 0 := (nI_eq (by omega) (by omega)).mp (by rw [nI_0]; exact c66)
            refine lv_iload hx hb d_Na_moveDown_69 (lv_at hl 1 rfl) ?_
            refine lv_goto (tgt := 86) hx hb d_Na_moveDown_71 (by decide) ?_
            refine nw_sW hx hb hKW.1 hP hD hS (i := i) (by omega) (j := j) (by omega) d_Na_moveDown_86 (fun H locs hP hD hS => ?_)
            refine lv_iinc (v := nI (j + 1)) (lv' := [(5, .int (nI (j + 1))), (7, .int (nI (0))), (6, .int (sW w a (j + wh))), (4, .int (nI (L - wh))), (0, .ref (ad (2 * i + 8))), (1, .ref (ad (2 * a + 8))), (2, .int (nI (wh))), (3, .int (nI (pt)))]) hx hb d_Na_moveDown_87 hl (k := 2) rfl (nI_add _ 1) (by decide) rfl (fun ls hl => ?_)
            refine lv_goto (tgt := 15) hx hb d_Na_moveDown_90 (by decide) ?_
            rw [sW_pW, pW_pW, show (sW w a (j + wh)) = dnw pt (sW w a (j + wh)) (nI 0) from (if_pos c66).symm] at hP hD
            exact ih (j + 1) (upd f j (dnw pt (sW w a (j + wh)) (nI 0))) H locs ls (by omega) (by rw [hlt j (by omega)] at hinv; rw [(hge (j + 1) (by omega)).trans nI_0.symm, md_step hpt hinv, vN_succ, Nat.add_comm wh j]) (fun q hq => by rw [pk_un (by omega)]; exact hf q (by omega)) hP hD hS (lv_sub hl [0, 3, 4, 5, 6, 7] rfl)
        · skip
          have c39 : ¬ (L - wh ≤ j + 1) := fun h => c39 ((nI_leI (by omega) (by omega)).mpr h)
          refine lv_aload_n hx hb d_Na_moveDown_42 rfl (lv_at hl 4 rfl) ?_
          refine nw_gW hx hb hts hown hKW.1 hP (i := a) (by omega) lf_Na_9 d_Na_moveDown_43 ?_
          refine lv_iload hx hb d_Na_moveDown_46 (lv_at hl 1 rfl) ?_
          refine lv_iload_n hx hb d_Na_moveDown_48 rfl (lv_at hl 5 rfl) ?_
          refine nw_iadd (v := nI (j + wh)) hx hb d_Na_moveDown_49 (nI_add _ _) ?_
          refine lv_iconst (v := nI (1)) hx hb d_Na_moveDown_50 (by decide) ?_
          refine nw_iadd (v := nI (j + wh + 1)) hx hb d_Na_moveDown_51 (nI_add _ _) ?_
          refine nw_lW hx hb hKW.1 hP (i := a) (by omega) (j := j + wh + 1) (by omega) (x := sW w a (j + wh + 1)) (rdX (hf (j + wh + 1) (by omega))) d_Na_moveDown_52 ?_
          refine lv_goto (tgt := 57) hx hb d_Na_moveDown_53 (by decide) ?_
          refine lv_istore (lv' := [(7, .int (sW w a (j + wh + 1))), (6, .int (sW w a (j + wh))), (5, .int (nI (j))), (4, .int (nI (L - wh))), (0, .ref (ad (2 * i + 8))), (1, .ref (ad (2 * a + 8))), (2, .int (nI (wh))), (3, .int (nI (pt)))]) hx hb d_Na_moveDown_57 hl (by decide) rfl (fun ls hl => ?_)
          refine lv_aload_n hx hb d_Na_moveDown_59 rfl (lv_at hl 4 rfl) ?_
          refine nw_gW hx hb hts hown hKW.1 hP (i := i) (by omega) lf_Na_9 d_Na_moveDown_60 ?_
          refine lv_iload hx hb d_Na_moveDown_63 (lv_at hl 2 rfl) ?_
          refine lv_iload_n hx hb d_Na_moveDown_65 rfl (lv_at hl 7 rfl) ?_
          refine lv_if_ne (tgt := 74) hx hb d_Na_moveDown_66 (by decide) (fun c66 => ?_) (fun c66 => ?_)
          · skip
            have c66 : ¬ (pt = 0) := fun h => c66 (by have := (nI_eq (by omega) (by omega)).mpr h; rwa [nI_0] at this)
            refine lv_iload hx hb d_Na_moveDown_74 (lv_at hl 1 rfl) ?_
            refine lv_iload_n hx hb d_Na_moveDown_76 rfl (lv_at hl 7 rfl) ?_
            refine lv_iushr (v := us (sW w a (j + wh)) pt) hx hb d_Na_moveDown_77 rfl ?_
            refine lv_iload hx hb d_Na_moveDown_78 (lv_at hl 0 rfl) ?_
            refine lv_bipush (v := nI (32)) hx hb d_Na_moveDown_80 (by decide) ?_
            refine lv_iload_n hx hb d_Na_moveDown_82 rfl (lv_at hl 7 rfl) ?_
            refine nw_isub (v := nI (32 - pt)) hx hb d_Na_moveDown_83 (pk_sub (by omega)) ?_
            refine nw_ishl (v := sl (sW w a (j + wh + 1)) (32 - pt)) hx hb d_Na_moveDown_84 rfl ?_
            refine nw_ior (v := (us (sW w a (j + wh)) pt) ||| (sl (sW w a (j + wh + 1)) (32 - pt))) hx hb d_Na_moveDown_85 rfl ?_
            refine nw_sW hx hb hKW.1 hP hD hS (i := i) (by omega) (j := j) (by omega) d_Na_moveDown_86 (fun H locs hP hD hS => ?_)
            refine lv_iinc (v := nI (j + 1)) (lv' := [(5, .int (nI (j + 1))), (7, .int (sW w a (j + wh + 1))), (6, .int (sW w a (j + wh))), (4, .int (nI (L - wh))), (0, .ref (ad (2 * i + 8))), (1, .ref (ad (2 * a + 8))), (2, .int (nI (wh))), (3, .int (nI (pt)))]) hx hb d_Na_moveDown_87 hl (k := 2) rfl (nI_add _ 1) (by decide) rfl (fun ls hl => ?_)
            refine lv_goto (tgt := 15) hx hb d_Na_moveDown_90 (by decide) ?_
            rw [sW_pW, pW_pW, show (us (sW w a (j + wh)) pt ||| sl (sW w a (j + wh + 1)) (32 - pt)) = dnw pt (sW w a (j + wh)) (sW w a (j + wh + 1)) from (if_neg c66).symm] at hP hD
            exact ih (j + 1) (upd f j (dnw pt (sW w a (j + wh)) (sW w a (j + wh + 1)))) H locs ls (by omega) (by rw [hlt j (by omega)] at hinv; rw [(hlt (j + 1) (by omega)).trans (show sW w a (j + 1 + wh) = sW w a (j + wh + 1) from congrArg _ (by omega)), md_step hpt hinv, vN_succ, Nat.add_comm wh j]) (fun q hq => by rw [pk_un (by omega)]; exact hf q (by omega)) hP hD hS (lv_sub hl [0, 3, 4, 5, 6, 7] rfl)
          · skip
            have c66 : pt = 0 := (nI_eq (by omega) (by omega)).mp (by rw [nI_0]; exact c66)
            refine lv_iload hx hb d_Na_moveDown_69 (lv_at hl 1 rfl) ?_
            refine lv_goto (tgt := 86) hx hb d_Na_moveDown_71 (by decide) ?_
            refine nw_sW hx hb hKW.1 hP hD hS (i := i) (by omega) (j := j) (by omega) d_Na_moveDown_86 (fun H locs hP hD hS => ?_)
            refine lv_iinc (v := nI (j + 1)) (lv' := [(5, .int (nI (j + 1))), (7, .int (sW w a (j + wh + 1))), (6, .int (sW w a (j + wh))), (4, .int (nI (L - wh))), (0, .ref (ad (2 * i + 8))), (1, .ref (ad (2 * a + 8))), (2, .int (nI (wh))), (3, .int (nI (pt)))]) hx hb d_Na_moveDown_87 hl (k := 2) rfl (nI_add _ 1) (by decide) rfl (fun ls hl => ?_)
            refine lv_goto (tgt := 15) hx hb d_Na_moveDown_90 (by decide) ?_
            rw [sW_pW, pW_pW, show (sW w a (j + wh)) = dnw pt (sW w a (j + wh)) (sW w a (j + wh + 1)) from (if_pos c66).symm] at hP hD
            exact ih (j + 1) (upd f j (dnw pt (sW w a (j + wh)) (sW w a (j + wh + 1)))) H locs ls (by omega) (by rw [hlt j (by omega)] at hinv; rw [(hlt (j + 1) (by omega)).trans (show sW w a (j + 1 + wh) = sW w a (j + wh + 1) from congrArg _ (by omega)), md_step hpt hinv, vN_succ, Nat.add_comm wh j]) (fun q hq => by rw [pk_un (by omega)]; exact hf q (by omega)) hP hD hS (lv_sub hl [0, 3, 4, 5, 6, 7] rfl)
  have e0 : pW w i (sW w i) = w := pW_self w i
  exact loop (L - wh) 0 (sW w i) _ _ ls (by omega) (by show 0 * 2 ^ pt + wN (al 0) % 2 ^ pt = 0 + wN (al 0) % 2 ^ pt * 4294967296 ^ 0; omega) (fun _ _ => rfl) (by rw [e0]; exact hP) (by rw [e0]; exact hD) hS (lv_sub hl [0, 1, 2, 3, 4, 5] rfl)

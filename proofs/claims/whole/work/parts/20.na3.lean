/-! NUMBERS: the contracts of Natural, 3 (rows laid by wip/whole/gen/c_na3.py) -/
set_option maxHeartbeats 4000000 in
set_option maxRecDepth 100000 in
/-- putSame(a): this becomes a -/
theorem c_Na_putSame (l : Launch) {D : va_G} {cI cB cR : ClassId} {ad : Nat → Nat} (w : St) (sz : Nat) {i a v : Nat} (hi : i < 14) (ha : a < 14) (hv : NV w a v) : Met l y_Na_putSame (q_Na_putSame :: wA) { frames := 1, cells := 0, slots := 0, locals := 60 } (va_Pc [.ref (ad (2 * i + 8)), .ref (ad (2 * a + 8))] (PW D cI cB cR ad w sz)) (va_Qv (fun w1 : St => eqN w w1 i ∧ NV w1 i v) (BW D cI cB cR ad) (AA ad sz)) 0 0 (AA ad sz) := by
  refine Met.ofW (cc := b_Na_putSame) (maxL := 2) (ret := none) (by decide) rfl ?_
  intro p e s m args below meth c s₁ B hml hv
  obtain ⟨rfl, hsz, hP, hD0, hKW⟩ := hv
  have hx := B.exec
  have hb := B.bytes
  have hr := B.returns
  have hts := atoms_spec (ws := q_Na_putSame :: wA) B.pre
  have hown : s.vm.findClass R_Na = some m.cls := findClass_of_methodNamed B.named
  have hlocks := B.notSynchronized
  subst hsz
  have hD := NC_AA (sz := s.heap.size) hD0
  have hS : va_S (AA ad s.heap.size) s.heap s.heap [] := va_S.rf
  have hl := lv_entry ([.ref (ad (2 * i + 8)), .ref (ad (2 * a + 8))]) (n := 2) (Nat.le_of_ble_eq_true rfl)
  rw [lg_entry_eq]
  generalize (lg_sl ([.ref (ad (2 * i + 8)), .ref (ad (2 * a + 8))]) ++ List.replicate (2 - (lg_sl ([.ref (ad (2 * i + 8)), .ref (ad (2 * a + 8))])).length) Slot.unset).toArray = ls at hl ⊢
  have hl : lv_has ls 2 [(0, .ref (ad (2 * i + 8))), (1, .ref (ad (2 * a + 8)))] := hl
  have hlen := hv.len
  refine lv_aload_n hx hb d_Na_putSame_0 rfl (lv_at hl 1 rfl) ?_
  refine nw_gW hx hb hts hown hKW.1 hP (i := a) (by omega) lf_Na_9 d_Na_putSame_1 ?_
  refine lv_iconst (v := nI (0)) hx hb d_Na_putSame_4 (by decide) ?_
  refine lv_aload_n hx hb d_Na_putSame_5 rfl (lv_at hl 0 rfl) ?_
  refine nw_gW hx hb hts hown hKW.1 hP (i := i) (by omega) lf_Na_9 d_Na_putSame_6 ?_
  refine lv_iconst (v := nI (0)) hx hb d_Na_putSame_9 (by decide) ?_
  refine lv_aload_n hx hb d_Na_putSame_10 rfl (lv_at hl 1 rfl) ?_
  refine nw_gL hx hb hts hown hKW.1 hP (i := a) (by omega) (n := sL (w) a) rfl lf_Na_15 d_Na_putSame_11 ?_
  refine nw_cWW hx hb (hml.trans hl.1.symm) hts hown lm_Na_27 hKW.1 hP hD hS (a := a) ha (i := i) hi (sp := 0) (dp := 0) (n := sL w a) (by omega) (by omega) (Nat.le_of_ble_eq_true rfl) (by decide) d_Na_putSame_14 (fun H locs hP hD hS => ?_)
  refine lv_aload_n hx hb d_Na_putSame_17 rfl (lv_at hl 0 rfl) ?_
  refine lv_aload_n hx hb d_Na_putSame_18 rfl (lv_at hl 1 rfl) ?_
  refine nw_gL hx hb hts hown hKW.1 hP (i := a) (by omega) (n := sL w a) rfl lf_Na_15 d_Na_putSame_19 ?_
  refine nw_pL hx hb hts hown hKW.1 hP hD hS (i := i) (by omega) lf_Na_15 d_Na_putSame_22 (fun H locs hP hD hS => ?_)
  have hf : ∀ j, j < sL w a → va_cpy (sW w a) (sW w i) 0 0 (sL w a) j = sW w a j := fun j hj => by
    rw [pk_cpy_in (Nat.zero_le _) (by omega)]
    simp
  exact W.vret hx hb hr (fun t ht hW => ⟨⟨pL (pW w i (va_cpy (sW w a) (sW w i) 0 0 (sL w a))) i (sL w a), rfl, ⟨eqN_tr w i _ _, NV_as hv (sL_pL _ _ _) (fun j hj => by rw [show sW (pL (pW w i (va_cpy (sW w a) (sW w i) 0 0 (sL w a))) i (sL w a)) i = _ from sW_pW w i _]; exact hf j hj)⟩, BW_of ht hP⟩, hS.F ht⟩) hS.2.2 d_Na_putSame_25
set_option maxHeartbeats 4000000 in
set_option maxRecDepth 100000 in
/-- order(b) -/
theorem c_Na_order (l : Launch) {D : va_G} {cI cB cR : ClassId} {ad : Nat → Nat} (w : St) (sz : Nat) {i b v u : Nat} (hi : i < 14) (hb14 : b < 14) (hv : NV w i v) (hu : NV w b u) : Met l y_Na_order (q_Na_order :: wA) { frames := 0, cells := 0, slots := 0, locals := 0 } (va_Pc [.ref (ad (2 * i + 8)), .ref (ad (2 * b + 8))] (PW D cI cB cR ad w sz)) (va_Qi (fun (r : Int32) (w1 : St) => r = cmpN v u ∧ w1 = w) (BW D cI cB cR ad) (AA ad sz)) 0 0 (AA ad sz) := by
  refine Met.ofW (cc := b_Na_order) (maxL := 3) (ret := (some (.int))) (by decide) rfl ?_
  intro p e s m args below meth c s₁ B hml hv
  obtain ⟨rfl, hsz, hP, hD0, hKW⟩ := hv
  have hx := B.exec
  have hb := B.bytes
  have hr := B.returns
  have hts := atoms_spec (ws := q_Na_order :: wA) B.pre
  have hown : s.vm.findClass R_Na = some m.cls := findClass_of_methodNamed B.named
  have hlocks := B.notSynchronized
  subst hsz
  have hD := NC_AA (sz := s.heap.size) hD0
  have hS : va_S (AA ad s.heap.size) s.heap s.heap [] := va_S.rf
  have hl := lv_entry ([.ref (ad (2 * i + 8)), .ref (ad (2 * b + 8))]) (n := 3) (Nat.le_of_ble_eq_true rfl)
  rw [lg_entry_eq]
  generalize (lg_sl ([.ref (ad (2 * i + 8)), .ref (ad (2 * b + 8))]) ++ List.replicate (3 - (lg_sl ([.ref (ad (2 * i + 8)), .ref (ad (2 * b + 8))])).length) Slot.unset).toArray = ls at hl ⊢
  have hl : lv_has ls 3 [(0, .ref (ad (2 * i + 8))), (1, .ref (ad (2 * b + 8)))] := hl
  have hlen := hv.len
  have hlen2 := hu.len
  refine lv_aload_n hx hb d_Na_order_0 rfl (lv_at hl 0 rfl) ?_
  refine nw_gL hx hb hts hown hKW.1 hP (i := i) (by omega) (n := sL (w) i) rfl lf_Na_15 d_Na_order_1 ?_
  refine lv_aload_n hx hb d_Na_order_4 rfl (lv_at hl 1 rfl) ?_
  refine nw_gL hx hb hts hown hKW.1 hP (i := b) (by omega) (n := sL (w) b) rfl lf_Na_15 d_Na_order_5 ?_
  refine lv_icmp_eq (tgt := 28) hx hb d_Na_order_8 (by decide) (fun c8 => ?_) (fun c8 => ?_)
  · skip
    have c8 : sL (w) i = sL (w) b := (nI_eq (by omega) (by omega)).mp c8
    refine lv_aload_n hx hb d_Na_order_28 rfl (lv_at hl 0 rfl) ?_
    refine nw_gL hx hb hts hown hKW.1 hP (i := i) (by omega) (n := sL (w) i) rfl lf_Na_15 d_Na_order_29 ?_
    refine lv_iconst (v := nI (1)) hx hb d_Na_order_32 (by decide) ?_
    refine nw_isub (v := dn (sL w i)) hx hb d_Na_order_33 (dn_sub _) ?_
    refine lv_istore_n (lv' := [(2, .int (dn (sL w i))), (0, .ref (ad (2 * i + 8))), (1, .ref (ad (2 * b + 8)))]) hx hb d_Na_order_34 rfl hl (by decide) rfl (fun ls hl => ?_)
    have loop : ∀ (k : Nat), k ≤ sL w i → (∀ j, k ≤ j → j < sL w i → sW w i j = sW w b j) → ∀ ls : Array Slot, lv_has ls 3 [(2, .int (dn k)), (0, .ref (ad (2 * i + 8))), (1, .ref (ad (2 * b + 8)))] → W p l e (headSpec (q_Na_order :: wA) { frames := 0, cells := 0, slots := 0, locals := 0 }).room s m ([.ref (ad (2 * i + 8)), .ref (ad (2 * b + 8))] : List Value).toArray below meth c s.heap [] 0 0 (MQ below (va_Qi (fun (r : Int32) (w1 : St) => r = cmpN v u ∧ w1 = w) (BW D cI cB cR ad) (AA ad s.heap.size)) ([.ref (ad (2 * i + 8)), .ref (ad (2 * b + 8))] : List Value).toArray s 0 0 (AA ad s.heap.size)) (F0 m 35 ls []) := by
      intro k
      induction k with
      | zero =>
        intro _ he ls hl
        refine lv_iload_n hx hb d_Na_order_35 rfl (lv_at hl 0 rfl) ?_
        refine lv_if_lt (tgt := 92) hx hb d_Na_order_36 (by decide) (fun c36 => ?_) (fun c36 => ?_)
        · skip
          refine lv_iconst (v := nI (0)) hx hb d_Na_order_92 (by decide) ?_
          have huv : v = u := by rw [← hv.2.2, ← hu.2.2, ← c8]; exact vN_congr (fun j hj => by rw [Nat.zero_add]; exact he j (Nat.zero_le _) hj)
          exact W.iret (v := nI (0)) hx hb hr (fun t ht hW => ⟨⟨_, w, rfl, ⟨by rw [huv, cmpN_eq]; exact nI_0, rfl⟩, BW_of ht hP⟩, hS.F ht⟩) hS.2.2 d_Na_order_93
        · exact absurd dn_0 c36
      | succ k ih =>
        intro hk he ls hl
        refine lv_iload_n hx hb d_Na_order_35 rfl (lv_at hl 0 rfl) ?_
        refine lv_if_lt (tgt := 92) hx hb d_Na_order_36 (by decide) (fun c36 => ?_) (fun c36 => ?_)
        · exact absurd c36 (nI_pos (by omega))
        · skip
          refine lv_aload_n hx hb d_Na_order_39 rfl (lv_at hl 1 rfl) ?_
          refine nw_gW hx hb hts hown hKW.1 hP (i := i) (by omega) lf_Na_9 d_Na_order_40 ?_
          refine lv_iload_n hx hb d_Na_order_43 rfl (lv_at hl 0 rfl) ?_
          refine nw_lW hx hb hKW.1 hP (i := i) (by omega) (j := k) (by omega) (x := sW (w) i (k)) rfl d_Na_order_44 ?_
          refine lv_aload_n hx hb d_Na_order_45 rfl (lv_at hl 2 rfl) ?_
          refine nw_gW hx hb hts hown hKW.1 hP (i := b) (by omega) lf_Na_9 d_Na_order_46 ?_
          refine lv_iload_n hx hb d_Na_order_49 rfl (lv_at hl 0 rfl) ?_
          refine nw_lW hx hb hKW.1 hP (i := b) (by omega) (j := k) (by omega) (x := sW (w) b (k)) rfl d_Na_order_50 ?_
          refine lv_icmp_eq (tgt := 86) hx hb d_Na_order_51 (by decide) (fun c51 => ?_) (fun c51 => ?_)
          · skip
            refine lv_iinc (v := dn k) (lv' := [(2, .int (dn k)), (0, .ref (ad (2 * i + 8))), (1, .ref (ad (2 * b + 8)))]) hx hb d_Na_order_86 hl (k := 0) rfl (dn_dec k) (by decide) rfl (fun ls hl => ?_)
            refine lv_goto (tgt := 35) hx hb d_Na_order_89 (by decide) ?_
            exact ih (by omega) (fun j h1 h2 => by rcases Nat.lt_or_ge k j with q | q; exact he j (by omega) h2; rw [show j = k by omega]; exact c51) ls (lv_sub hl [0, 1, 2] rfl)
          · skip
            refine lv_aload_n hx hb d_Na_order_54 rfl (lv_at hl 1 rfl) ?_
            refine nw_gW hx hb hts hown hKW.1 hP (i := i) (by omega) lf_Na_9 d_Na_order_55 ?_
            refine lv_iload_n hx hb d_Na_order_58 rfl (lv_at hl 0 rfl) ?_
            refine nw_lW hx hb hKW.1 hP (i := i) (by omega) (j := k) (by omega) (x := sW (w) i (k)) rfl d_Na_order_59 ?_
            refine lv_i2l (v := (sW (w) i (k)).toInt64) hx hb d_Na_order_60 rfl ?_
            refine lv_ldc2 (v := 4294967295) hx hb hown (hA_ hts ll_Na_33) d_Na_order_61 ?_
            refine nw_land (v := lN (wN ((sW (w) i (k))))) hx hb d_Na_order_64 (lw_low _) ?_
            refine lv_aload_n hx hb d_Na_order_65 rfl (lv_at hl 2 rfl) ?_
            refine nw_gW hx hb hts hown hKW.1 hP (i := b) (by omega) lf_Na_9 d_Na_order_66 ?_
            refine lv_iload_n hx hb d_Na_order_69 rfl (lv_at hl 0 rfl) ?_
            refine nw_lW hx hb hKW.1 hP (i := b) (by omega) (j := k) (by omega) (x := sW (w) b (k)) rfl d_Na_order_70 ?_
            refine lv_i2l (v := (sW (w) b (k)).toInt64) hx hb d_Na_order_71 rfl ?_
            refine lv_ldc2 (v := 4294967295) hx hb hown (hA_ hts ll_Na_33) d_Na_order_72 ?_
            refine nw_land (v := lN (wN ((sW (w) b (k))))) hx hb d_Na_order_75 (lw_low _) ?_
            refine W.lcmp hx hb d_Na_order_76 ?_
            refine lv_if_ge (tgt := 84) hx hb d_Na_order_77 (by decide) (fun c77 => ?_) (fun c77 => ?_)
            · skip
              have h9 := (pk_lLE (Nat.lt_trans (wN_lt _) (by decide)) (Nat.lt_trans (wN_lt _) (by decide))).mp ((lg_cmp_ge _ _).mp c77)
              have h8 : wN (sW w b k) < wN (sW w i k) := by rcases Nat.lt_or_eq_of_le h9 with q | q; exact q; exact absurd (wN_inj q.symm) c51
              have h7 : u < v := by rw [← hv.2.2, ← hu.2.2, ← c8]; exact dn_lex (by omega) (fun j h1 h2 => (he j (by omega) h2).symm) h8
              refine lv_iconst (v := nI (1)) hx hb d_Na_order_84 (by decide) ?_
              exact W.iret (v := nI (1)) hx hb hr (fun t ht hW => ⟨⟨_, w, rfl, ⟨(cmpN_gt h7).symm, rfl⟩, BW_of ht hP⟩, hS.F ht⟩) hS.2.2 d_Na_order_85
            · skip
              have h9 : ¬ wN (sW w b k) ≤ wN (sW w i k) := fun h => c77 ((lg_cmp_ge _ _).mpr ((pk_lLE (Nat.lt_trans (wN_lt _) (by decide)) (Nat.lt_trans (wN_lt _) (by decide))).mpr h))
              have h7 : v < u := by rw [← hv.2.2, ← hu.2.2, ← c8]; exact dn_lex (by omega) (fun j h1 h2 => he j (by omega) h2) (Nat.not_le.mp h9)
              refine lv_iconst (v := -1) hx hb d_Na_order_80 (by decide) ?_
              refine lv_goto (tgt := 85) hx hb d_Na_order_81 (by decide) ?_
              exact W.iret (v := -1) hx hb hr (fun t ht hW => ⟨⟨_, w, rfl, ⟨(cmpN_lt h7).symm, rfl⟩, BW_of ht hP⟩, hS.F ht⟩) hS.2.2 d_Na_order_85
    exact loop (sL w i) (Nat.le_refl _) (fun j h1 h2 => absurd h2 (by omega)) ls hl
  · skip
    have c8 : ¬ (sL (w) i = sL (w) b) := fun h => c8 ((nI_eq (by omega) (by omega)).mpr h)
    refine lv_aload_n hx hb d_Na_order_11 rfl (lv_at hl 0 rfl) ?_
    refine nw_gL hx hb hts hown hKW.1 hP (i := i) (by omega) (n := sL (w) i) rfl lf_Na_15 d_Na_order_12 ?_
    refine lv_aload_n hx hb d_Na_order_15 rfl (lv_at hl 1 rfl) ?_
    refine nw_gL hx hb hts hown hKW.1 hP (i := b) (by omega) (n := sL (w) b) rfl lf_Na_15 d_Na_order_16 ?_
    refine lv_icmp_ge (tgt := 26) hx hb d_Na_order_19 (by decide) (fun c19 => ?_) (fun c19 => ?_)
    · skip
      have c19 : sL (w) b ≤ sL (w) i := (nI_leI (by omega) (by omega)).mp c19
      refine lv_iconst (v := nI (1)) hx hb d_Na_order_26 (by decide) ?_
      have h7 : u < v := Nat.lt_of_lt_of_le hu.lt (Nat.le_trans (Nat.pow_le_pow_right (by decide) (by omega)) (hv.ge (by omega)))
      exact W.iret (v := nI (1)) hx hb hr (fun t ht hW => ⟨⟨_, w, rfl, ⟨(cmpN_gt h7).symm, rfl⟩, BW_of ht hP⟩, hS.F ht⟩) hS.2.2 d_Na_order_27
    · skip
      have c19 : ¬ (sL (w) b ≤ sL (w) i) := fun h => c19 ((nI_leI (by omega) (by omega)).mpr h)
      refine lv_iconst (v := -1) hx hb d_Na_order_22 (by decide) ?_
      refine lv_goto (tgt := 27) hx hb d_Na_order_23 (by decide) ?_
      have h7 : v < u := Nat.lt_of_lt_of_le hv.lt (Nat.le_trans (Nat.pow_le_pow_right (by decide) (by omega)) (hu.ge (by omega)))
      exact W.iret (v := -1) hx hb hr (fun t ht hW => ⟨⟨_, w, rfl, ⟨(cmpN_lt h7).symm, rfl⟩, BW_of ht hP⟩, hS.F ht⟩) hS.2.2 d_Na_order_27

/-! THE REFERENCE'S NUMBERS, 3 (rows laid by wip/whole/gen/c_mn3.py) -/
set_option maxHeartbeats 4000000 in
set_option maxRecDepth 100000 in
/-- product(x, y) -/
theorem c_Mn_product (l : Launch) {D : va_G} {cI cB cR : ClassId} {ad : Nat → Nat} (w : Mt) (sz : Nat) {i a b v u : Nat} (hi : i < 19) (ha : a < 19) (hb19 : b < 19) (hai : a ≠ i) (hbi : b ≠ i) (h3 : W3 w) (hv : NU w a v) (hu : NU w b u) (hfit : mL w a + mL w b ≤ 6800) : Met l y_Mn_product (q_Mn_product :: wA) { frames := 2, cells := 0, slots := 0, locals := 90 } (va_Pc [.ref (ad (2 * i + 4)), .ref (ad (2 * a + 4)), .ref (ad (2 * b + 4))] (PM D cI cB cR ad w sz)) (va_Qv (fun w1 : Mt => eqM w w1 [i] ∧ NU w1 i (v * u) ∧ W3 w1) (BM D cI cB cR ad) (AM ad sz)) 0 0 (AM ad sz) := by
  refine Met.ofW (cc := b_Mn_product) (maxL := 11) (ret := none) (by decide) rfl ?_
  intro p e s m args below meth c s₁ B hml hv
  obtain ⟨rfl, hsz, hP, hD0, hKW⟩ := hv
  have hx := B.exec
  have hb := B.bytes
  have hr := B.returns
  have hts := atoms_spec (ws := q_Mn_product :: wA) B.pre
  have hown : s.vm.findClass R_Mn = some m.cls := findClass_of_methodNamed B.named
  have hlocks := B.notSynchronized
  subst hsz
  have hD := NM_AM (sz := s.heap.size) hD0
  have hS : va_S (AM ad s.heap.size) s.heap s.heap [] := va_S.rf
  have hl := lv_entry ([.ref (ad (2 * i + 4)), .ref (ad (2 * a + 4)), .ref (ad (2 * b + 4))]) (n := 11) (Nat.le_of_ble_eq_true rfl)
  rw [lg_entry_eq]
  generalize (lg_sl ([.ref (ad (2 * i + 4)), .ref (ad (2 * a + 4)), .ref (ad (2 * b + 4))]) ++ List.replicate (11 - (lg_sl ([.ref (ad (2 * i + 4)), .ref (ad (2 * a + 4)), .ref (ad (2 * b + 4))])).length) Slot.unset).toArray = ls at hl ⊢
  have hl : lv_has ls 11 [(0, .ref (ad (2 * i + 4))), (1, .ref (ad (2 * a + 4))), (2, .ref (ad (2 * b + 4)))] := hl
  refine lv_aload_n hx hb d_Mn_product_0 rfl (lv_at hl 0 rfl) ?_
  refine mw_gW hx hb hts hown hKW.1 hP (i := i) (by omega) lf_Mn_9 d_Mn_product_1 ?_
  refine lv_iconst (v := nI (0)) hx hb d_Mn_product_4 (by decide) ?_
  refine lv_aload_n hx hb d_Mn_product_5 rfl (lv_at hl 1 rfl) ?_
  refine mw_gL hx hb hts hown hKW.1 hP (i := a) (by omega) (n := mL w a) rfl lf_Mn_15 d_Mn_product_6 ?_
  refine lv_aload_n hx hb d_Mn_product_9 rfl (lv_at hl 2 rfl) ?_
  refine mw_gL hx hb hts hown hKW.1 hP (i := b) (by omega) (n := mL w b) rfl lf_Mn_15 d_Mn_product_10 ?_
  refine nw_iadd (v := nI (mL w a + (mL w b))) hx hb d_Mn_product_13 (nI_add _ _) ?_
  refine lv_iconst (v := nI (0)) hx hb d_Mn_product_14 (by decide) ?_
  refine zS_v (As := [.ref (ad (2 * i + 5)), .int (nI (0)), .int (nI (mL w a + (mL w b))), .int (nI (0))]) (rest := []) (n := 4) ⟨hx, hb, hml, hown, hts⟩ (c_Mx_fill l w _ (i := i) (a := 0) (b := mL w a + mL w b) (x := 0) hi (Nat.zero_le _) hfit) (cwS0 4 hts lm_Mn_36 st_Ja_fill in_Ja kq_Ja_fill rfl rfl rfl (by decide +kernel) ⟨Nat.le_of_ble_eq_true rfl, Nat.le_of_ble_eq_true rfl⟩) hKW hP hD hS rfl hl.1 rfl (Nat.le_of_ble_eq_true rfl) d_Mn_product_15 ⟨Nat.zero_le _, Nat.zero_le _⟩ (fun w1 H locs hp hP hD hS => ?_)
  rw [hp] at hP hD
  refine lv_iconst (v := nI (0)) hx hb d_Mn_product_18 (by decide) ?_
  refine lv_istore_n (lv' := [(3, .int (nI (0))), (0, .ref (ad (2 * i + 4))), (1, .ref (ad (2 * a + 4))), (2, .ref (ad (2 * b + 4)))]) hx hb d_Mn_product_19 rfl hl (by decide) rfl (fun ls hl => ?_)
  have loop : ∀ (q o : Nat) (f : Nat → Nat) (H : Heap) (locs : List Loc) (ls : Array Slot), o + q = mL w a → B3 f → uV f 0 (o + mL w b) = uV (mW w a) 0 o * uV (mW w b) 0 (mL w b) → va_P D clA (NM cI cB cR ad (st w i f (mL w i))) H → va_D (AM ad s.heap.size) (NM cI cB cR ad (st w i f (mL w i))) → va_S (AM ad s.heap.size) s.heap H locs → lv_has ls 11 [(3, .int (nI (o))), (0, .ref (ad (2 * i + 4))), (1, .ref (ad (2 * a + 4))), (2, .ref (ad (2 * b + 4)))] → W p l e (headSpec (q_Mn_product :: wA) { frames := 2, cells := 0, slots := 0, locals := 90 }).room s m ([.ref (ad (2 * i + 4)), .ref (ad (2 * a + 4)), .ref (ad (2 * b + 4))] : List Value).toArray below meth c H locs 0 0 (MQ below (va_Qv (fun w1 : Mt => eqM w w1 [i] ∧ NU w1 i (v * u) ∧ W3 w1) (BM D cI cB cR ad) (AM ad s.heap.size)) ([.ref (ad (2 * i + 4)), .ref (ad (2 * a + 4)), .ref (ad (2 * b + 4))] : List Value).toArray s 0 0 (AM ad s.heap.size)) (F0 m 20 ls []) := by
    intro q
    induction q with
    | zero =>
      intro o f H locs ls hj hB hinv hP hD hS hl
      refine lv_iload_n hx hb d_Mn_product_20 rfl (lv_at hl 0 rfl) ?_
      refine lv_aload_n hx hb d_Mn_product_21 rfl (lv_at hl 2 rfl) ?_
      refine mw_gL hx hb hts hown hKW.1 hP (i := a) (by omega) (n := mL w a) (by rw [st_mLn _ _ _ (by omega)]) lf_Mn_15 d_Mn_product_22 ?_
      refine lv_icmp_ge (tgt := 127) hx hb d_Mn_product_25 (by decide) (fun c25 => ?_) (fun c25 => ?_)
      · skip
        have c25 : mL w a ≤ o := (nI_leI (by omega) (by omega)).mp c25
        have ej : o = mL w a := by omega
        rw [ej, hv.2.2, hu.2.2] at hinv
        refine lv_aload_n hx hb d_Mn_product_127 rfl (lv_at hl 1 rfl) ?_
        refine lv_aload_n hx hb d_Mn_product_128 rfl (lv_at hl 2 rfl) ?_
        refine mw_gL hx hb hts hown hKW.1 hP (i := a) (by omega) (n := mL w a) (by rw [st_mLn _ _ _ (by omega)]) lf_Mn_15 d_Mn_product_129 ?_
        refine lv_aload_n hx hb d_Mn_product_132 rfl (lv_at hl 3 rfl) ?_
        refine mw_gL hx hb hts hown hKW.1 hP (i := b) (by omega) (n := mL w b) (by rw [st_mLn _ _ _ (by omega)]) lf_Mn_15 d_Mn_product_133 ?_
        refine nw_iadd (v := nI (mL w a + (mL w b))) hx hb d_Mn_product_136 (nI_add _ _) ?_
        refine zV_v (As := [.int (nI (mL w a + (mL w b)))]) (rest := []) (n := 1) ⟨hx, hb, hml, hown, hts⟩ (c_Mn_trim l (st w i f (mL w i)) _ (i := i) (top := mL w a + mL w b) hi (h3.st hB) (by omega)) (cwV0 1 hts lm_Mn_32 im_Mn_trim se_Mn_trim in_Mn kq_Mn_trim rfl rfl rfl (by decide +kernel) ⟨Nat.le_of_ble_eq_true rfl, Nat.le_of_ble_eq_true rfl⟩) (recMn hKW.1 hP (i := i) (by omega)) hKW hP hD hS rfl hl.1 rfl (Nat.le_of_ble_eq_true rfl) d_Mn_product_137 ⟨Nat.zero_le _, Nat.zero_le _⟩ (fun w1 H locs hp hP hD hS => ?_)
        rw [hp, st_mW, st_st] at hP hD
        exact W.vret hx hb hr (fun t ht hW => ⟨⟨st w i f (tm f (mL w a + mL w b)), rfl, ⟨eqM_st _ _ _ _, hinv ▸ NU_tr (by omega), h3.st hB⟩, BM_of ht hP⟩, hS.F ht⟩) hS.2.2 d_Mn_product_140
      · skip
        have c25 : ¬ (mL w a ≤ o) := fun h => c25 ((nI_leI (by omega) (by omega)).mpr h)
        omega
    | succ q ih =>
      intro o f H locs ls hj hB hinv hP hD hS hl
      refine lv_iload_n hx hb d_Mn_product_20 rfl (lv_at hl 0 rfl) ?_
      refine lv_aload_n hx hb d_Mn_product_21 rfl (lv_at hl 2 rfl) ?_
      refine mw_gL hx hb hts hown hKW.1 hP (i := a) (by omega) (n := mL w a) (by rw [st_mLn _ _ _ (by omega)]) lf_Mn_15 d_Mn_product_22 ?_
      refine lv_icmp_ge (tgt := 127) hx hb d_Mn_product_25 (by decide) (fun c25 => ?_) (fun c25 => ?_)
      · skip
        have c25 : mL w a ≤ o := (nI_leI (by omega) (by omega)).mp c25
        omega
      · skip
        have c25 : ¬ (mL w a ≤ o) := fun h => c25 ((nI_leI (by omega) (by omega)).mpr h)
        have ha9 := h3 a o
        refine lv_lconst (v := lN (0)) hx hb d_Mn_product_28 (by decide) ?_
        refine lv_lstore (lv' := [(4, .long (lN (0))), (3, .int (nI (o))), (0, .ref (ad (2 * i + 4))), (1, .ref (ad (2 * a + 4))), (2, .ref (ad (2 * b + 4)))]) hx hb d_Mn_product_29 hl (by decide) rfl (fun ls hl => ?_)
        refine lv_aload_n hx hb d_Mn_product_31 rfl (lv_at hl 3 rfl) ?_
        refine mw_gW hx hb hts hown hKW.1 hP (i := a) (by omega) lf_Mn_9 d_Mn_product_32 ?_
        refine lv_iload_n hx hb d_Mn_product_35 rfl (lv_at hl 1 rfl) ?_
        refine mw_lW hx hb hKW.1 hP (i := a) (by omega) (j := o) (by omega) (x := mW w a o) (by rw [st_mWn _ _ _ (by omega)]) d_Mn_product_36 ?_
        refine lv_i2l (v := lN (mW w a o)) hx hb d_Mn_product_37 (nI_l (by omega)) ?_
        refine lv_lstore (lv' := [(6, .long (lN (mW w a o))), (4, .long (lN (0))), (3, .int (nI (o))), (0, .ref (ad (2 * i + 4))), (1, .ref (ad (2 * a + 4))), (2, .ref (ad (2 * b + 4)))]) hx hb d_Mn_product_38 hl (by decide) rfl (fun ls hl => ?_)
        refine lv_iconst (v := nI (0)) hx hb d_Mn_product_40 (by decide) ?_
        refine lv_istore (lv' := [(8, .int (nI (0))), (6, .long (lN (mW w a o))), (4, .long (lN (0))), (3, .int (nI (o))), (0, .ref (ad (2 * i + 4))), (1, .ref (ad (2 * a + 4))), (2, .ref (ad (2 * b + 4)))]) hx hb d_Mn_product_41 hl (by decide) rfl (fun ls hl => ?_)
        have inner : ∀ (t j y : Nat) (f : Nat → Nat) (H : Heap) (locs : List Loc) (ls : Array Slot), j + t = mL w b → y < 1073741824 → B3 f → uV f 0 (o + mL w b) + y * 1073741824 ^ (o + j) = uV (mW w a) 0 o * uV (mW w b) 0 (mL w b) + mW w a o * uV (mW w b) 0 j * 1073741824 ^ o → va_P D clA (NM cI cB cR ad (st w i f (mL w i))) H → va_D (AM ad s.heap.size) (NM cI cB cR ad (st w i f (mL w i))) → va_S (AM ad s.heap.size) s.heap H locs → lv_has ls 11 [(8, .int (nI (j))), (4, .long (lN (y))), (6, .long (lN (mW w a o))), (3, .int (nI (o))), (0, .ref (ad (2 * i + 4))), (1, .ref (ad (2 * a + 4))), (2, .ref (ad (2 * b + 4)))] → W p l e (headSpec (q_Mn_product :: wA) { frames := 2, cells := 0, slots := 0, locals := 90 }).room s m ([.ref (ad (2 * i + 4)), .ref (ad (2 * a + 4)), .ref (ad (2 * b + 4))] : List Value).toArray below meth c H locs 0 0 (MQ below (va_Qv (fun w1 : Mt => eqM w w1 [i] ∧ NU w1 i (v * u) ∧ W3 w1) (BM D cI cB cR ad) (AM ad s.heap.size)) ([.ref (ad (2 * i + 4)), .ref (ad (2 * a + 4)), .ref (ad (2 * b + 4))] : List Value).toArray s 0 0 (AM ad s.heap.size)) (F0 m 43 ls []) := by
          intro t
          induction t with
          | zero =>
            intro j y f H locs ls hj2 hy hB hinv hP hD hS hl
            refine lv_iload hx hb d_Mn_product_43 (lv_at hl 0 rfl) ?_
            refine lv_aload_n hx hb d_Mn_product_45 rfl (lv_at hl 6 rfl) ?_
            refine mw_gL hx hb hts hown hKW.1 hP (i := b) (by omega) (n := mL w b) (by rw [st_mLn _ _ _ (by omega)]) lf_Mn_15 d_Mn_product_46 ?_
            refine lv_icmp_ge (tgt := 107) hx hb d_Mn_product_49 (by decide) (fun c49 => ?_) (fun c49 => ?_)
            · skip
              have c49 : mL w b ≤ j := (nI_leI (by omega) (by omega)).mp c49
              have ej : j = mL w b := by omega
              rw [ej] at hinv
              refine lv_aload_n hx hb d_Mn_product_107 rfl (lv_at hl 4 rfl) ?_
              refine mw_gW hx hb hts hown hKW.1 hP (i := i) (by omega) lf_Mn_9 d_Mn_product_108 ?_
              refine lv_iload_n hx hb d_Mn_product_111 rfl (lv_at hl 3 rfl) ?_
              refine lv_aload_n hx hb d_Mn_product_112 rfl (lv_at hl 6 rfl) ?_
              refine mw_gL hx hb hts hown hKW.1 hP (i := b) (by omega) (n := mL w b) (by rw [st_mLn _ _ _ (by omega)]) lf_Mn_15 d_Mn_product_113 ?_
              refine nw_iadd (v := nI (o + (mL w b))) hx hb d_Mn_product_116 (nI_add _ _) ?_
              refine lv_lload hx hb d_Mn_product_117 (lv_at hl 1 rfl) ?_
              refine lv_l2i (v := nI (y)) hx hb d_Mn_product_119 (lN_i _) ?_
              refine mw_sW hx hb hKW.1 hP hD hS (i := i) (by omega) (j := o + (mL w b)) (by omega) d_Mn_product_120 (fun H locs hP hD hS => ?_)
              rw [st_qW, st_mW] at hP hD
              refine lv_iinc (v := nI (o + 1)) (lv' := [(3, .int (nI (o + 1))), (8, .int (nI (j))), (4, .long (lN (y))), (6, .long (lN (mW w a o))), (0, .ref (ad (2 * i + 4))), (1, .ref (ad (2 * a + 4))), (2, .ref (ad (2 * b + 4)))]) hx hb d_Mn_product_121 hl (k := 3) rfl (nI_add _ 1) (by decide) rfl (fun ls hl => ?_)
              refine lv_goto (tgt := 20) hx hb d_Mn_product_124 (by decide) ?_
              exact ih (o + 1) _ H locs ls (by omega) (upM_B hB hy) (pm_end hinv) hP hD hS (lv_sub hl [0, 4, 5, 6] rfl)
            · skip
              have c49 : ¬ (mL w b ≤ j) := fun h => c49 ((nI_leI (by omega) (by omega)).mpr h)
              omega
          | succ t ih2 =>
            intro j y f H locs ls hj2 hy hB hinv hP hD hS hl
            refine lv_iload hx hb d_Mn_product_43 (lv_at hl 0 rfl) ?_
            refine lv_aload_n hx hb d_Mn_product_45 rfl (lv_at hl 6 rfl) ?_
            refine mw_gL hx hb hts hown hKW.1 hP (i := b) (by omega) (n := mL w b) (by rw [st_mLn _ _ _ (by omega)]) lf_Mn_15 d_Mn_product_46 ?_
            refine lv_icmp_ge (tgt := 107) hx hb d_Mn_product_49 (by decide) (fun c49 => ?_) (fun c49 => ?_)
            · skip
              have c49 : mL w b ≤ j := (nI_leI (by omega) (by omega)).mp c49
              omega
            · skip
              have c49 : ¬ (mL w b ≤ j) := fun h => c49 ((nI_leI (by omega) (by omega)).mpr h)
              have hf9 := hB (o + j)
              have hb9 := h3 b j
              have hq9 := pr_bnd ha9 hb9 hf9 hy
              refine lv_lload hx hb d_Mn_product_52 (lv_at hl 2 rfl) ?_
              refine lv_aload_n hx hb d_Mn_product_54 rfl (lv_at hl 6 rfl) ?_
              refine mw_gW hx hb hts hown hKW.1 hP (i := b) (by omega) lf_Mn_9 d_Mn_product_55 ?_
              refine lv_iload hx hb d_Mn_product_58 (lv_at hl 0 rfl) ?_
              refine mw_lW hx hb hKW.1 hP (i := b) (by omega) (j := j) (by omega) (x := mW w b j) (by rw [st_mWn _ _ _ (by omega)]) d_Mn_product_60 ?_
              refine lv_i2l (v := lN (mW w b j)) hx hb d_Mn_product_61 (nI_l (by omega)) ?_
              refine nw_lmul (v := lN ((mW w a o) * (mW w b j))) hx hb d_Mn_product_62 (lN_mul _ _) ?_
              refine lv_aload_n hx hb d_Mn_product_63 rfl (lv_at hl 4 rfl) ?_
              refine mw_gW hx hb hts hown hKW.1 hP (i := i) (by omega) lf_Mn_9 d_Mn_product_64 ?_
              refine lv_iload_n hx hb d_Mn_product_67 rfl (lv_at hl 3 rfl) ?_
              refine lv_iload hx hb d_Mn_product_68 (lv_at hl 0 rfl) ?_
              refine nw_iadd (v := nI (o + j)) hx hb d_Mn_product_70 (nI_add _ _) ?_
              refine mw_lW hx hb hKW.1 hP (i := i) (by omega) (j := o + j) (by omega) (x := f (o + j)) (by rw [st_mW]) d_Mn_product_71 ?_
              refine lv_i2l (v := lN (f (o + j))) hx hb d_Mn_product_72 (nI_l (by omega)) ?_
              refine nw_ladd (v := lN ((mW w a o) * (mW w b j) + (f (o + j)))) hx hb d_Mn_product_73 (lN_add _ _) ?_
              refine lv_lload hx hb d_Mn_product_74 (lv_at hl 1 rfl) ?_
              refine nw_ladd (v := lN ((mW w a o) * (mW w b j) + (f (o + j)) + y)) hx hb d_Mn_product_76 (lN_add _ _) ?_
              refine lv_lstore (lv' := [(9, .long (lN ((mW w a o) * (mW w b j) + (f (o + j)) + y))), (8, .int (nI (j))), (4, .long (lN (y))), (6, .long (lN (mW w a o))), (3, .int (nI (o))), (0, .ref (ad (2 * i + 4))), (1, .ref (ad (2 * a + 4))), (2, .ref (ad (2 * b + 4)))]) hx hb d_Mn_product_77 hl (by decide) rfl (fun ls hl => ?_)
              refine lv_aload_n hx hb d_Mn_product_79 rfl (lv_at hl 5 rfl) ?_
              refine mw_gW hx hb hts hown hKW.1 hP (i := i) (by omega) lf_Mn_9 d_Mn_product_80 ?_
              refine lv_iload_n hx hb d_Mn_product_83 rfl (lv_at hl 4 rfl) ?_
              refine lv_iload hx hb d_Mn_product_84 (lv_at hl 1 rfl) ?_
              refine nw_iadd (v := nI (o + j)) hx hb d_Mn_product_86 (nI_add _ _) ?_
              refine lv_lload hx hb d_Mn_product_87 (lv_at hl 0 rfl) ?_
              refine lv_l2i (v := nI ((mW w a o) * (mW w b j) + (f (o + j)) + y)) hx hb d_Mn_product_89 (lN_i _) ?_
              refine lv_ldc (v := 1073741823) hx hb hown (hA_ hts lk_Mn_25) d_Mn_product_90 ?_
              refine nw_iand (v := nI (((mW w a o) * (mW w b j) + (f (o + j)) + y) % 1073741824)) hx hb d_Mn_product_92 (nI_mask _) ?_
              refine mw_sW hx hb hKW.1 hP hD hS (i := i) (by omega) (j := o + j) (by omega) d_Mn_product_93 (fun H locs hP hD hS => ?_)
              rw [st_qW, st_mW] at hP hD
              refine lv_lload hx hb d_Mn_product_94 (lv_at hl 0 rfl) ?_
              refine lv_bipush (v := nI (30)) hx hb d_Mn_product_96 (by decide) ?_
              refine lv_lshr (v := lN (((mW w a o) * (mW w b j) + (f (o + j)) + y) / 1073741824)) hx hb d_Mn_product_98 (lN_sr30 (by omega)) ?_
              refine lv_lstore (lv' := [(4, .long (lN (((mW w a o) * (mW w b j) + (f (o + j)) + y) / 1073741824))), (9, .long (lN ((mW w a o) * (mW w b j) + (f (o + j)) + y))), (8, .int (nI (j))), (6, .long (lN (mW w a o))), (3, .int (nI (o))), (0, .ref (ad (2 * i + 4))), (1, .ref (ad (2 * a + 4))), (2, .ref (ad (2 * b + 4)))]) hx hb d_Mn_product_99 hl (by decide) rfl (fun ls hl => ?_)
              refine lv_iinc (v := nI (j + 1)) (lv' := [(8, .int (nI (j + 1))), (4, .long (lN (((mW w a o) * (mW w b j) + (f (o + j)) + y) / 1073741824))), (9, .long (lN ((mW w a o) * (mW w b j) + (f (o + j)) + y))), (6, .long (lN (mW w a o))), (3, .int (nI (o))), (0, .ref (ad (2 * i + 4))), (1, .ref (ad (2 * a + 4))), (2, .ref (ad (2 * b + 4)))]) hx hb d_Mn_product_101 hl (k := 2) rfl (nI_add _ 1) (by decide) rfl (fun ls hl => ?_)
              refine lv_goto (tgt := 43) hx hb d_Mn_product_104 (by decide) ?_
              exact ih2 (j + 1) _ _ H locs ls (by omega) hq9.2 (upM_B hB (p3_mod _)) (pm_step (by omega) hinv rfl) hP hD hS (lv_sub hl [0, 1, 3, 4, 5, 6, 7] rfl)
        exact inner (mL w b) 0 0 f _ _ ls (by omega) (by omega) hB (by rw [hinv, uV_0, Nat.mul_zero, Nat.zero_mul, Nat.zero_mul]) hP hD hS (lv_sub hl [0, 2, 1, 3, 4, 5, 6] rfl)
  exact loop (mL w a) 0 _ _ _ ls (by omega) (flM_B (h3 i) (by decide)) (by rw [uV_0, Nat.zero_mul]; exact uV_zero (fun j hj => flM_in (Nat.zero_le _) (by omega))) hP hD hS (lv_sub hl [0, 1, 2, 3] rfl)
set_option maxHeartbeats 4000000 in
set_option maxRecDepth 100000 in
/-- one(k) -/
theorem c_Mn_one (l : Launch) {D : va_G} {cI cB cR : ClassId} {ad : Nat → Nat} (w : Mt) (sz : Nat) {i k : Nat} (hi : i < 19) (h3 : W3 w) (hk : k ≤ 200100) : Met l y_Mn_one (q_Mn_one :: wA) { frames := 2, cells := 0, slots := 0, locals := 90 } (va_Pc [.ref (ad (2 * i + 4)), .int (nI (k))] (PM D cI cB cR ad w sz)) (va_Qv (fun w1 : Mt => eqM w w1 [i] ∧ NU w1 i (2 ^ k) ∧ W3 w1) (BM D cI cB cR ad) (AM ad sz)) 0 0 (AM ad sz) := by
  refine Met.ofW (cc := b_Mn_one) (maxL := 2) (ret := none) (by decide) rfl ?_
  intro p e s m args below meth c s₁ B hml hv
  obtain ⟨rfl, hsz, hP, hD0, hKW⟩ := hv
  have hx := B.exec
  have hb := B.bytes
  have hr := B.returns
  have hts := atoms_spec (ws := q_Mn_one :: wA) B.pre
  have hown : s.vm.findClass R_Mn = some m.cls := findClass_of_methodNamed B.named
  have hlocks := B.notSynchronized
  subst hsz
  have hD := NM_AM (sz := s.heap.size) hD0
  have hS : va_S (AM ad s.heap.size) s.heap s.heap [] := va_S.rf
  have hl := lv_entry ([.ref (ad (2 * i + 4)), .int (nI (k))]) (n := 2) (Nat.le_of_ble_eq_true rfl)
  rw [lg_entry_eq]
  generalize (lg_sl ([.ref (ad (2 * i + 4)), .int (nI (k))]) ++ List.replicate (2 - (lg_sl ([.ref (ad (2 * i + 4)), .int (nI (k))])).length) Slot.unset).toArray = ls at hl ⊢
  have hl : lv_has ls 2 [(0, .ref (ad (2 * i + 4))), (1, .int (nI (k)))] := hl
  refine lv_aload_n hx hb d_Mn_one_0 rfl (lv_at hl 0 rfl) ?_
  refine mw_gW hx hb hts hown hKW.1 hP (i := i) (by omega) lf_Mn_9 d_Mn_one_1 ?_
  refine lv_iconst (v := nI (0)) hx hb d_Mn_one_4 (by decide) ?_
  refine lv_iload_n hx hb d_Mn_one_5 rfl (lv_at hl 1 rfl) ?_
  refine lv_bipush (v := nI (30)) hx hb d_Mn_one_6 (by decide) ?_
  refine nw_idiv (v := nI (k / 30)) hx hb d_Mn_one_8 (nI_ne0 (by omega) (by omega)) (pk_div (by omega) (by omega) (by omega)) ?_
  refine lv_iconst (v := nI (0)) hx hb d_Mn_one_9 (by decide) ?_
  refine zS_v (As := [.ref (ad (2 * i + 5)), .int (nI (0)), .int (nI (k / 30)), .int (nI (0))]) (rest := []) (n := 4) ⟨hx, hb, hml, hown, hts⟩ (c_Mx_fill l w _ (i := i) (a := 0) (b := k / 30) (x := 0) hi (Nat.zero_le _) (by omega)) (cwS0 4 hts lm_Mn_36 st_Ja_fill in_Ja kq_Ja_fill rfl rfl rfl (by decide +kernel) ⟨Nat.le_of_ble_eq_true rfl, Nat.le_of_ble_eq_true rfl⟩) hKW hP hD hS rfl hl.1 rfl (Nat.le_of_ble_eq_true rfl) d_Mn_one_10 ⟨Nat.zero_le _, Nat.zero_le _⟩ (fun w1 H locs hp hP hD hS => ?_)
  rw [hp] at hP hD
  have hp2 := p2_30 (pt := k % 30) (by omega)
  refine lv_aload_n hx hb d_Mn_one_13 rfl (lv_at hl 0 rfl) ?_
  refine mw_gW hx hb hts hown hKW.1 hP (i := i) (by omega) lf_Mn_9 d_Mn_one_14 ?_
  refine lv_iload_n hx hb d_Mn_one_17 rfl (lv_at hl 1 rfl) ?_
  refine lv_bipush (v := nI (30)) hx hb d_Mn_one_18 (by decide) ?_
  refine nw_idiv (v := nI (k / 30)) hx hb d_Mn_one_20 (nI_ne0 (by omega) (by omega)) (pk_div (by omega) (by omega) (by omega)) ?_
  refine lv_iconst (v := nI (1)) hx hb d_Mn_one_21 (by decide) ?_
  refine lv_iload_n hx hb d_Mn_one_22 rfl (lv_at hl 1 rfl) ?_
  refine lv_bipush (v := nI (30)) hx hb d_Mn_one_23 (by decide) ?_
  refine nw_irem (v := nI (k % 30)) hx hb d_Mn_one_25 (nI_ne0 (by omega) (by omega)) (pk_rem (by omega) (by omega) (by omega)) ?_
  refine nw_ishl (v := nI (2 ^ (k % 30))) hx hb d_Mn_one_26 ((nI_shl (by omega)).trans (by rw [Nat.one_mul])) ?_
  refine mw_sW hx hb hKW.1 hP hD hS (i := i) (by omega) (j := k / 30) (by omega) d_Mn_one_27 (fun H locs hP hD hS => ?_)
  rw [st_qW, st_mW] at hP hD
  refine lv_aload_n hx hb d_Mn_one_28 rfl (lv_at hl 0 rfl) ?_
  refine lv_iload_n hx hb d_Mn_one_29 rfl (lv_at hl 1 rfl) ?_
  refine lv_bipush (v := nI (30)) hx hb d_Mn_one_30 (by decide) ?_
  refine nw_idiv (v := nI (k / 30)) hx hb d_Mn_one_32 (nI_ne0 (by omega) (by omega)) (pk_div (by omega) (by omega) (by omega)) ?_
  refine lv_iconst (v := nI (1)) hx hb d_Mn_one_33 (by decide) ?_
  refine nw_iadd (v := nI (k / 30 + 1)) hx hb d_Mn_one_34 (nI_add _ _) ?_
  refine mw_pL hx hb hts hown hKW.1 hP hD hS (i := i) (by omega) lf_Mn_15 d_Mn_one_35 (fun H locs hP hD hS => ?_)
  rw [st_qL] at hP hD
  have e := uV_push (flM (mW w i) 0 (k / 30) 0) 0 (k / 30) (2 ^ (k % 30))
  rw [Nat.zero_add, uV_zero (fun j hj => flM_in (Nat.zero_le _) (by omega)), Nat.zero_add, Nat.mul_comm, ← p2_k] at e
  exact W.vret hx hb hr (fun t ht hW => ⟨⟨st w i (upM (flM (mW w i) 0 (k / 30) 0) (k / 30) (2 ^ (k % 30))) (k / 30 + 1), rfl, ⟨eqM_st _ _ _ _, NU_st (by omega) (Or.inr (by rw [Nat.add_sub_cancel, upM_s]; exact Nat.ne_of_gt (Nat.pow_pos (by decide)))) e, h3.st (upM_B (flM_B (h3 i) (by decide)) hp2)⟩, BM_of ht hP⟩, hS.F ht⟩) hS.2.2 d_Mn_one_38
set_option maxHeartbeats 4000000 in
set_option maxRecDepth 100000 in
/-- up(k) -/
theorem c_Mn_up (l : Launch) {D : va_G} {cI cB cR : ClassId} {ad : Nat → Nat} (w : Mt) (sz : Nat) {i v k : Nat} (hi : i < 19) (h3 : W3 w) (hv : NU w i v) (hk : k ≤ 200000) (hfit : mL w i + k / 30 + 1 ≤ 6800) : Met l y_Mn_up (q_Mn_up :: wA) { frames := 1, cells := 0, slots := 0, locals := 60 } (va_Pc [.ref (ad (2 * i + 4)), .int (nI (k))] (PM D cI cB cR ad w sz)) (va_Qv (fun w1 : Mt => eqM w w1 [i] ∧ NU w1 i (v * 2 ^ k) ∧ W3 w1) (BM D cI cB cR ad) (AM ad sz)) 0 0 (AM ad sz) := by
  refine Met.ofW (cc := b_Mn_up) (maxL := 7) (ret := none) (by decide) rfl ?_
  intro p e s m args below meth c s₁ B hml hv
  obtain ⟨rfl, hsz, hP, hD0, hKW⟩ := hv
  have hx := B.exec
  have hb := B.bytes
  have hr := B.returns
  have hts := atoms_spec (ws := q_Mn_up :: wA) B.pre
  have hown : s.vm.findClass R_Mn = some m.cls := findClass_of_methodNamed B.named
  have hlocks := B.notSynchronized
  subst hsz
  have hD := NM_AM (sz := s.heap.size) hD0
  have hS : va_S (AM ad s.heap.size) s.heap s.heap [] := va_S.rf
  have hl := lv_entry ([.ref (ad (2 * i + 4)), .int (nI (k))]) (n := 7) (Nat.le_of_ble_eq_true rfl)
  rw [lg_entry_eq]
  generalize (lg_sl ([.ref (ad (2 * i + 4)), .int (nI (k))]) ++ List.replicate (7 - (lg_sl ([.ref (ad (2 * i + 4)), .int (nI (k))])).length) Slot.unset).toArray = ls at hl ⊢
  have hl : lv_has ls 7 [(0, .ref (ad (2 * i + 4))), (1, .int (nI (k)))] := hl
  refine lv_aload_n hx hb d_Mn_up_0 rfl (lv_at hl 0 rfl) ?_
  refine mw_gL hx hb hts hown hKW.1 hP (i := i) (by omega) (n := mL w i) rfl lf_Mn_15 d_Mn_up_1 ?_
  refine lv_if_eq (tgt := 11) hx hb d_Mn_up_4 (by decide) (fun c4 => ?_) (fun c4 => ?_)
  · skip
    have c4 : mL w i = 0 := (nI_eq (by omega) (by omega)).mp (by first | (rw [nI_0]; exact c4) | rw [nI_0])
    exact W.vret hx hb hr (fun t ht hW => ⟨⟨w, rfl, ⟨eqM_refl _ _, by rw [hv.zero.mp c4, Nat.zero_mul]; rw [hv.zero.mp c4] at hv; exact hv, h3⟩, BM_of ht hP⟩, hS.F ht⟩) hS.2.2 d_Mn_up_11
  · skip
    have c4 : ¬ (mL w i = 0) := fun h => c4 (by have := (nI_eq (by omega) (by omega)).mpr h; rwa [nI_0] at this)
    refine lv_iload_n hx hb d_Mn_up_7 rfl (lv_at hl 1 rfl) ?_
    refine lv_if_ne (tgt := 12) hx hb d_Mn_up_8 (by decide) (fun c8 => ?_) (fun c8 => ?_)
    · skip
      have c8 : ¬ (k = 0) := fun h => c8 (by have := (nI_eq (by omega) (by omega)).mpr h; rwa [nI_0] at this)
      have hpt : k % 30 < 30 := Nat.mod_lt _ (by decide)
      refine lv_iload_n hx hb d_Mn_up_12 rfl (lv_at hl 1 rfl) ?_
      refine lv_bipush (v := nI (30)) hx hb d_Mn_up_13 (by decide) ?_
      refine nw_idiv (v := nI (k / 30)) hx hb d_Mn_up_15 (nI_ne0 (by omega) (by omega)) (pk_div (by omega) (by omega) (by omega)) ?_
      refine lv_istore_n (lv' := [(2, .int (nI (k / 30))), (0, .ref (ad (2 * i + 4))), (1, .int (nI (k)))]) hx hb d_Mn_up_16 rfl hl (by decide) rfl (fun ls hl => ?_)
      refine lv_iload_n hx hb d_Mn_up_17 rfl (lv_at hl 2 rfl) ?_
      refine lv_bipush (v := nI (30)) hx hb d_Mn_up_18 (by decide) ?_
      refine nw_irem (v := nI (k % 30)) hx hb d_Mn_up_20 (nI_ne0 (by omega) (by omega)) (pk_rem (by omega) (by omega) (by omega)) ?_
      refine lv_istore_n (lv' := [(3, .int (nI (k % 30))), (2, .int (nI (k / 30))), (0, .ref (ad (2 * i + 4))), (1, .int (nI (k)))]) hx hb d_Mn_up_21 rfl hl (by decide) rfl (fun ls hl => ?_)
      refine lv_aload_n hx hb d_Mn_up_22 rfl (lv_at hl 2 rfl) ?_
      refine mw_gW hx hb hts hown hKW.1 hP (i := i) (by omega) lf_Mn_9 d_Mn_up_23 ?_
      refine lv_aload_n hx hb d_Mn_up_26 rfl (lv_at hl 2 rfl) ?_
      refine mw_gL hx hb hts hown hKW.1 hP (i := i) (by omega) (n := mL w i) rfl lf_Mn_15 d_Mn_up_27 ?_
      refine lv_iload_n hx hb d_Mn_up_30 rfl (lv_at hl 1 rfl) ?_
      refine nw_iadd (v := nI (mL w i + (k / 30))) hx hb d_Mn_up_31 (nI_add _ _) ?_
      refine lv_iconst (v := nI (0)) hx hb d_Mn_up_32 (by decide) ?_
      refine mw_sW hx hb hKW.1 hP hD hS (i := i) (by omega) (j := mL w i + (k / 30)) (by omega) d_Mn_up_33 (fun H locs hP hD hS => ?_)
      rw [st_ofW] at hP hD
      refine lv_aload_n hx hb d_Mn_up_34 rfl (lv_at hl 2 rfl) ?_
      refine mw_gL hx hb hts hown hKW.1 hP (i := i) (by omega) (n := mL w i) (by rw [st_mL]) lf_Mn_15 d_Mn_up_35 ?_
      refine lv_iconst (v := nI (1)) hx hb d_Mn_up_38 (by decide) ?_
      refine nw_isub (v := dn (mL w i)) hx hb d_Mn_up_39 (dn_sub _) ?_
      refine lv_istore (lv' := [(4, .int (dn (mL w i))), (3, .int (nI (k % 30))), (2, .int (nI (k / 30))), (0, .ref (ad (2 * i + 4))), (1, .int (nI (k)))]) hx hb d_Mn_up_40 hl (by decide) rfl (fun ls hl => ?_)
      have loop : ∀ (j t : Nat) (f : Nat → Nat) (H : Heap) (locs : List Loc) (ls : Array Slot), j + t = mL w i → B3 f → uV f (j + k / 30) (t + 1) = uV (mW w i) j t * 2 ^ (k % 30) → (∀ z, z < j → f z = mW w i z) → (t ≠ 0 → f (j + k / 30) % 2 ^ (k % 30) = 0) → va_P D clA (NM cI cB cR ad (st w i f (mL w i))) H → va_D (AM ad s.heap.size) (NM cI cB cR ad (st w i f (mL w i))) → va_S (AM ad s.heap.size) s.heap H locs → lv_has ls 7 [(4, .int (dn j)), (2, .int (nI (k / 30))), (3, .int (nI (k % 30))), (0, .ref (ad (2 * i + 4))), (1, .int (nI (k)))] → W p l e (headSpec (q_Mn_up :: wA) { frames := 1, cells := 0, slots := 0, locals := 60 }).room s m ([.ref (ad (2 * i + 4)), .int (nI (k))] : List Value).toArray below meth c H locs 0 0 (MQ below (va_Qv (fun w1 : Mt => eqM w w1 [i] ∧ NU w1 i (v * 2 ^ k) ∧ W3 w1) (BM D cI cB cR ad) (AM ad s.heap.size)) ([.ref (ad (2 * i + 4)), .int (nI (k))] : List Value).toArray s 0 0 (AM ad s.heap.size)) (F0 m 42 ls []) := by
        intro j
        induction j with
        | zero =>
          intro t f H locs ls hj hB hinv hk9 hm9 hP hD hS hl
          refine lv_iload hx hb d_Mn_up_42 (lv_at hl 0 rfl) ?_
          refine lv_if_lt (tgt := 124) hx hb d_Mn_up_44 (by decide) (fun c44 => ?_) (fun c44 => ?_)
          · skip
            have ej : t = mL w i := by omega
            rw [ej, Nat.zero_add] at hinv
            refine lv_iconst (v := nI (0)) hx hb d_Mn_up_124 (by decide) ?_
            refine lv_istore (lv' := [(4, .int (nI (0))), (2, .int (nI (k / 30))), (3, .int (nI (k % 30))), (0, .ref (ad (2 * i + 4))), (1, .int (nI (k)))]) hx hb d_Mn_up_125 hl (by decide) rfl (fun ls hl => ?_)
            have zl : ∀ (t z : Nat) (f : Nat → Nat) (H : Heap) (locs : List Loc) (ls : Array Slot), z + t = k / 30 → B3 f → uV f (k / 30) (mL w i + 1) = uV (mW w i) 0 (mL w i) * 2 ^ (k % 30) → (∀ j, j < z → f j = 0) → va_P D clA (NM cI cB cR ad (st w i f (mL w i))) H → va_D (AM ad s.heap.size) (NM cI cB cR ad (st w i f (mL w i))) → va_S (AM ad s.heap.size) s.heap H locs → lv_has ls 7 [(4, .int (nI (z))), (2, .int (nI (k / 30))), (3, .int (nI (k % 30))), (0, .ref (ad (2 * i + 4))), (1, .int (nI (k)))] → W p l e (headSpec (q_Mn_up :: wA) { frames := 1, cells := 0, slots := 0, locals := 60 }).room s m ([.ref (ad (2 * i + 4)), .int (nI (k))] : List Value).toArray below meth c H locs 0 0 (MQ below (va_Qv (fun w1 : Mt => eqM w w1 [i] ∧ NU w1 i (v * 2 ^ k) ∧ W3 w1) (BM D cI cB cR ad) (AM ad s.heap.size)) ([.ref (ad (2 * i + 4)), .int (nI (k))] : List Value).toArray s 0 0 (AM ad s.heap.size)) (F0 m 127 ls []) := by
              intro t
              induction t with
              | zero =>
                intro z f H locs ls hj hB hinv hz hP hD hS hl
                refine lv_iload hx hb d_Mn_up_127 (lv_at hl 0 rfl) ?_
                refine lv_iload_n hx hb d_Mn_up_129 rfl (lv_at hl 1 rfl) ?_
                refine lv_icmp_ge (tgt := 147) hx hb d_Mn_up_130 (by decide) (fun c130 => ?_) (fun c130 => ?_)
                · skip
                  have c130 : k / 30 ≤ z := (nI_leI (by omega) (by omega)).mp c130
                  have ej : z = k / 30 := by omega
                  rw [ej] at hz
                  have e := us_end hinv hz hv.2.2
                  rw [Nat.div_add_mod] at e
                  refine lv_aload_n hx hb d_Mn_up_147 rfl (lv_at hl 3 rfl) ?_
                  refine lv_aload_n hx hb d_Mn_up_148 rfl (lv_at hl 3 rfl) ?_
                  refine mw_gL hx hb hts hown hKW.1 hP (i := i) (by omega) (n := mL w i) (by rw [st_mL]) lf_Mn_15 d_Mn_up_149 ?_
                  refine lv_iload_n hx hb d_Mn_up_152 rfl (lv_at hl 1 rfl) ?_
                  refine nw_iadd (v := nI (mL w i + (k / 30))) hx hb d_Mn_up_153 (nI_add _ _) ?_
                  refine lv_iconst (v := nI (1)) hx hb d_Mn_up_154 (by decide) ?_
                  refine nw_iadd (v := nI (mL w i + (k / 30) + 1)) hx hb d_Mn_up_155 (nI_add _ _) ?_
                  refine zV_v (As := [.int (nI (mL w i + (k / 30) + 1))]) (rest := []) (n := 1) ⟨hx, hb, hml, hown, hts⟩ (c_Mn_trim l (st w i f (mL w i)) _ (i := i) (top := mL w i + k / 30 + 1) hi (h3.st hB) (by omega)) (cwV0 1 hts lm_Mn_32 im_Mn_trim se_Mn_trim in_Mn kq_Mn_trim rfl rfl rfl (by decide +kernel) ⟨Nat.le_of_ble_eq_true rfl, Nat.le_of_ble_eq_true rfl⟩) (recMn hKW.1 hP (i := i) (by omega)) hKW hP hD hS rfl hl.1 rfl (Nat.le_of_ble_eq_true rfl) d_Mn_up_156 ⟨Nat.zero_le _, Nat.zero_le _⟩ (fun w1 H locs hp hP hD hS => ?_)
                  rw [hp, st_mW, st_st] at hP hD
                  exact W.vret hx hb hr (fun t ht hW => ⟨⟨st w i f (tm f (mL w i + k / 30 + 1)), rfl, ⟨eqM_st _ _ _ _, e ▸ NU_tr (by omega), h3.st hB⟩, BM_of ht hP⟩, hS.F ht⟩) hS.2.2 d_Mn_up_159
                · skip
                  have c130 : ¬ (k / 30 ≤ z) := fun h => c130 ((nI_leI (by omega) (by omega)).mpr h)
                  omega
              | succ t ih2 =>
                intro z f H locs ls hj hB hinv hz hP hD hS hl
                refine lv_iload hx hb d_Mn_up_127 (lv_at hl 0 rfl) ?_
                refine lv_iload_n hx hb d_Mn_up_129 rfl (lv_at hl 1 rfl) ?_
                refine lv_icmp_ge (tgt := 147) hx hb d_Mn_up_130 (by decide) (fun c130 => ?_) (fun c130 => ?_)
                · skip
                  have c130 : k / 30 ≤ z := (nI_leI (by omega) (by omega)).mp c130
                  omega
                · skip
                  have c130 : ¬ (k / 30 ≤ z) := fun h => c130 ((nI_leI (by omega) (by omega)).mpr h)
                  refine lv_aload_n hx hb d_Mn_up_133 rfl (lv_at hl 3 rfl) ?_
                  refine mw_gW hx hb hts hown hKW.1 hP (i := i) (by omega) lf_Mn_9 d_Mn_up_134 ?_
                  refine lv_iload hx hb d_Mn_up_137 (lv_at hl 0 rfl) ?_
                  refine lv_iconst (v := nI (0)) hx hb d_Mn_up_139 (by decide) ?_
                  refine mw_sW hx hb hKW.1 hP hD hS (i := i) (by omega) (j := z) (by omega) d_Mn_up_140 (fun H locs hP hD hS => ?_)
                  rw [st_qW, st_mW] at hP hD
                  refine lv_iinc (v := nI (z + 1)) (lv' := [(4, .int (nI (z + 1))), (2, .int (nI (k / 30))), (3, .int (nI (k % 30))), (0, .ref (ad (2 * i + 4))), (1, .int (nI (k)))]) hx hb d_Mn_up_141 hl (k := 0) rfl (nI_add _ 1) (by decide) rfl (fun ls hl => ?_)
                  refine lv_goto (tgt := 127) hx hb d_Mn_up_144 (by decide) ?_
                  exact ih2 (z + 1) _ H locs ls (by omega) (upM_B hB (by decide)) (by rw [uV_out (Or.inl (by omega))]; exact hinv) (fun j hj => by rcases Nat.lt_or_ge j z with q | q; rw [upM_n (by omega)]; exact hz j q; rw [show j = z by omega, upM_s]) hP hD hS (lv_sub hl [0, 1, 2, 3, 4] rfl)
            exact zl (k / 30) 0 f _ _ ls (by omega) hB hinv (fun j hj => absurd hj (by omega)) hP hD hS (lv_sub hl [0, 1, 2, 3, 4] rfl)
          · exact absurd dn_0 c44
        | succ j ih =>
          intro t f H locs ls hj hB hinv hk9 hm9 hP hD hS hl
          refine lv_iload hx hb d_Mn_up_42 (lv_at hl 0 rfl) ?_
          refine lv_if_lt (tgt := 124) hx hb d_Mn_up_44 (by decide) (fun c44 => ?_) (fun c44 => ?_)
          · exact absurd c44 (nI_pos (by omega))
          · skip
            have hf9 := hB j
            have hg9 := hk9 j (by omega)
            have hf8 := hB (j + k / 30 + 1)
            have hp2 := p2_30 hpt
            have hs1 := us_hi (pt := k % 30) hf9
            have hs2 : f j * 2 ^ (k % 30) < 1073741824 * 1073741824 := Nat.mul_lt_mul_of_lt_of_lt hf9 hp2
            refine lv_aload_n hx hb d_Mn_up_47 rfl (lv_at hl 3 rfl) ?_
            refine mw_gW hx hb hts hown hKW.1 hP (i := i) (by omega) lf_Mn_9 d_Mn_up_48 ?_
            refine lv_iload hx hb d_Mn_up_51 (lv_at hl 0 rfl) ?_
            refine mw_lW hx hb hKW.1 hP (i := i) (by omega) (j := j) (by omega) (x := f j) (by rw [st_mW]) d_Mn_up_53 ?_
            refine lv_i2l (v := lN (f j)) hx hb d_Mn_up_54 (nI_l (by omega)) ?_
            refine lv_iload_n hx hb d_Mn_up_55 rfl (lv_at hl 2 rfl) ?_
            refine lv_lshl (v := lN ((f j) * 2 ^ (k % 30))) hx hb d_Mn_up_56 (lN_shl _ (by omega)) ?_
            refine lv_lstore (lv' := [(5, .long (lN ((f j) * 2 ^ (k % 30)))), (4, .int (nI (j))), (2, .int (nI (k / 30))), (3, .int (nI (k % 30))), (0, .ref (ad (2 * i + 4))), (1, .int (nI (k)))]) hx hb d_Mn_up_57 hl (by decide) rfl (fun ls hl => ?_)
            refine lv_aload_n hx hb d_Mn_up_59 rfl (lv_at hl 4 rfl) ?_
            refine mw_gW hx hb hts hown hKW.1 hP (i := i) (by omega) lf_Mn_9 d_Mn_up_60 ?_
            refine lv_iload hx hb d_Mn_up_63 (lv_at hl 1 rfl) ?_
            refine lv_iload_n hx hb d_Mn_up_65 rfl (lv_at hl 2 rfl) ?_
            refine nw_iadd (v := nI (j + (k / 30))) hx hb d_Mn_up_66 (nI_add _ _) ?_
            refine lv_iconst (v := nI (1)) hx hb d_Mn_up_67 (by decide) ?_
            refine nw_iadd (v := nI (j + (k / 30) + 1)) hx hb d_Mn_up_68 (nI_add _ _) ?_
            refine lv_iload hx hb d_Mn_up_69 (lv_at hl 1 rfl) ?_
            refine lv_aload_n hx hb d_Mn_up_71 rfl (lv_at hl 4 rfl) ?_
            refine mw_gL hx hb hts hown hKW.1 hP (i := i) (by omega) (n := mL w i) (by rw [st_mL]) lf_Mn_15 d_Mn_up_72 ?_
            refine lv_iconst (v := nI (1)) hx hb d_Mn_up_75 (by decide) ?_
            refine nw_isub (v := nI (mL w i - 1)) hx hb d_Mn_up_76 (pk_sub (by omega)) ?_
            refine lv_icmp_ne (tgt := 84) hx hb d_Mn_up_77 (by decide) (fun c77 => ?_) (fun c77 => ?_)
            · skip
              have c77 : ¬ (j = mL w i - 1) := fun h => c77 ((nI_eq (by omega) (by omega)).mpr h)
              have hor := us_or hf8 (by have := hm9 (by omega); rw [show j + 1 + k / 30 = j + k / 30 + 1 by omega] at this; exact this) hpt hs1
              refine lv_aload_n hx hb d_Mn_up_84 rfl (lv_at hl 4 rfl) ?_
              refine mw_gW hx hb hts hown hKW.1 hP (i := i) (by omega) lf_Mn_9 d_Mn_up_85 ?_
              refine lv_iload hx hb d_Mn_up_88 (lv_at hl 1 rfl) ?_
              refine lv_iload_n hx hb d_Mn_up_90 rfl (lv_at hl 2 rfl) ?_
              refine nw_iadd (v := nI (j + (k / 30))) hx hb d_Mn_up_91 (nI_add _ _) ?_
              refine lv_iconst (v := nI (1)) hx hb d_Mn_up_92 (by decide) ?_
              refine nw_iadd (v := nI (j + (k / 30) + 1)) hx hb d_Mn_up_93 (nI_add _ _) ?_
              refine mw_lW hx hb hKW.1 hP (i := i) (by omega) (j := j + (k / 30) + 1) (by omega) (x := f (j + (k / 30) + 1)) (by rw [st_mW]) d_Mn_up_94 ?_
              refine lv_lload hx hb d_Mn_up_95 (lv_at hl 0 rfl) ?_
              refine lv_bipush (v := nI (30)) hx hb d_Mn_up_97 (by decide) ?_
              refine lv_lshr (v := lN (((f j) * 2 ^ (k % 30)) / 1073741824)) hx hb d_Mn_up_99 (lN_sr30 (by omega)) ?_
              refine lv_l2i (v := nI (((f j) * 2 ^ (k % 30)) / 1073741824)) hx hb d_Mn_up_100 (lN_i _) ?_
              refine nw_ior (v := nI (f (j + k / 30 + 1) + f j * 2 ^ (k % 30) / 1073741824)) hx hb d_Mn_up_101 hor.1 ?_
              refine mw_sW hx hb hKW.1 hP hD hS (i := i) (by omega) (j := j + (k / 30) + 1) (by omega) d_Mn_up_102 (fun H locs hP hD hS => ?_)
              rw [st_qW, st_mW] at hP hD
              refine lv_aload_n hx hb d_Mn_up_103 rfl (lv_at hl 4 rfl) ?_
              refine mw_gW hx hb hts hown hKW.1 hP (i := i) (by omega) lf_Mn_9 d_Mn_up_104 ?_
              refine lv_iload hx hb d_Mn_up_107 (lv_at hl 1 rfl) ?_
              refine lv_iload_n hx hb d_Mn_up_109 rfl (lv_at hl 2 rfl) ?_
              refine nw_iadd (v := nI (j + (k / 30))) hx hb d_Mn_up_110 (nI_add _ _) ?_
              refine lv_lload hx hb d_Mn_up_111 (lv_at hl 0 rfl) ?_
              refine lv_l2i (v := nI ((f j) * 2 ^ (k % 30))) hx hb d_Mn_up_113 (lN_i _) ?_
              refine lv_ldc (v := 1073741823) hx hb hown (hA_ hts lk_Mn_25) d_Mn_up_114 ?_
              refine nw_iand (v := nI (((f j) * 2 ^ (k % 30)) % 1073741824)) hx hb d_Mn_up_116 (nI_mask _) ?_
              refine mw_sW hx hb hKW.1 hP hD hS (i := i) (by omega) (j := j + (k / 30)) (by omega) d_Mn_up_117 (fun H locs hP hD hS => ?_)
              rw [st_qW, st_mW] at hP hD
              refine lv_iinc (v := dn j) (lv' := [(4, .int (dn j)), (5, .long (lN ((f j) * 2 ^ (k % 30)))), (2, .int (nI (k / 30))), (3, .int (nI (k % 30))), (0, .ref (ad (2 * i + 4))), (1, .int (nI (k)))]) hx hb d_Mn_up_118 hl (k := 1) rfl (dn_dec j) (by decide) rfl (fun ls hl => ?_)
              refine lv_goto (tgt := 42) hx hb d_Mn_up_121 (by decide) ?_
              have hst := us_step (X := f (j + k / 30 + 1) + f j * 2 ^ (k % 30) / 1073741824) hpt hinv (by rw [hg9, show j + 1 + k / 30 = j + k / 30 + 1 by omega])
              rw [← hg9] at hst
              exact ih (t + 1) _ H locs ls (by omega) (upM_B (upM_B hB hor.2) (p3_mod _)) hst (fun z hz => by rw [upM_n (by omega), upM_n (by omega)]; exact hk9 z (by omega)) (fun _ => by rw [upM_s]; exact us_mod hpt) hP hD hS (lv_sub hl [0, 2, 3, 4, 5] rfl)
            · skip
              have c77 : j = mL w i - 1 := (nI_eq (by omega) (by omega)).mp c77
              have et : t = 0 := by omega
              subst et
              have hz0 : f (j + 1 + k / 30) = 0 := by rw [uV_one, uV_0, Nat.zero_mul] at hinv; exact hinv
              have hor := us_or (a := 0) (by decide) (Nat.zero_mod _) hpt hs1
              refine lv_iconst (v := nI (0)) hx hb d_Mn_up_80 (by decide) ?_
              refine lv_goto (tgt := 95) hx hb d_Mn_up_81 (by decide) ?_
              refine lv_lload hx hb d_Mn_up_95 (lv_at hl 0 rfl) ?_
              refine lv_bipush (v := nI (30)) hx hb d_Mn_up_97 (by decide) ?_
              refine lv_lshr (v := lN (((f j) * 2 ^ (k % 30)) / 1073741824)) hx hb d_Mn_up_99 (lN_sr30 (by omega)) ?_
              refine lv_l2i (v := nI (((f j) * 2 ^ (k % 30)) / 1073741824)) hx hb d_Mn_up_100 (lN_i _) ?_
              refine nw_ior (v := nI (0 + f j * 2 ^ (k % 30) / 1073741824)) hx hb d_Mn_up_101 hor.1 ?_
              refine mw_sW hx hb hKW.1 hP hD hS (i := i) (by omega) (j := j + (k / 30) + 1) (by omega) d_Mn_up_102 (fun H locs hP hD hS => ?_)
              rw [st_qW, st_mW] at hP hD
              refine lv_aload_n hx hb d_Mn_up_103 rfl (lv_at hl 4 rfl) ?_
              refine mw_gW hx hb hts hown hKW.1 hP (i := i) (by omega) lf_Mn_9 d_Mn_up_104 ?_
              refine lv_iload hx hb d_Mn_up_107 (lv_at hl 1 rfl) ?_
              refine lv_iload_n hx hb d_Mn_up_109 rfl (lv_at hl 2 rfl) ?_
              refine nw_iadd (v := nI (j + (k / 30))) hx hb d_Mn_up_110 (nI_add _ _) ?_
              refine lv_lload hx hb d_Mn_up_111 (lv_at hl 0 rfl) ?_
              refine lv_l2i (v := nI ((f j) * 2 ^ (k % 30))) hx hb d_Mn_up_113 (lN_i _) ?_
              refine lv_ldc (v := 1073741823) hx hb hown (hA_ hts lk_Mn_25) d_Mn_up_114 ?_
              refine nw_iand (v := nI (((f j) * 2 ^ (k % 30)) % 1073741824)) hx hb d_Mn_up_116 (nI_mask _) ?_
              refine mw_sW hx hb hKW.1 hP hD hS (i := i) (by omega) (j := j + (k / 30)) (by omega) d_Mn_up_117 (fun H locs hP hD hS => ?_)
              rw [st_qW, st_mW] at hP hD
              refine lv_iinc (v := dn j) (lv' := [(4, .int (dn j)), (5, .long (lN ((f j) * 2 ^ (k % 30)))), (2, .int (nI (k / 30))), (3, .int (nI (k % 30))), (0, .ref (ad (2 * i + 4))), (1, .int (nI (k)))]) hx hb d_Mn_up_118 hl (k := 1) rfl (dn_dec j) (by decide) rfl (fun ls hl => ?_)
              refine lv_goto (tgt := 42) hx hb d_Mn_up_121 (by decide) ?_
              have hst := us_step (X := 0 + f j * 2 ^ (k % 30) / 1073741824) hpt hinv (by rw [hg9, hz0])
              rw [← hg9] at hst
              exact ih (0 + 1) _ H locs ls (by omega) (upM_B (upM_B hB hor.2) (p3_mod _)) hst (fun z hz => by rw [upM_n (by omega), upM_n (by omega)]; exact hk9 z (by omega)) (fun _ => by rw [upM_s]; exact us_mod hpt) hP hD hS (lv_sub hl [0, 2, 3, 4, 5] rfl)
      exact loop (mL w i) 0 _ _ _ ls (by omega) (upM_B (h3 i) (by decide)) (by rw [uV_one, upM_s, uV_0, Nat.zero_mul]) (fun z hz => upM_n (by omega)) (fun z => absurd rfl z) hP hD hS (lv_sub hl [0, 2, 1, 3, 4] rfl)
    · skip
      have c8 : k = 0 := (nI_eq (by omega) (by omega)).mp (by first | (rw [nI_0]; exact c8) | rw [nI_0])
      exact W.vret hx hb hr (fun t ht hW => ⟨⟨w, rfl, ⟨eqM_refl _ _, by rw [c8, Nat.pow_zero, Nat.mul_one]; exact hv, h3⟩, BM_of ht hP⟩, hS.F ht⟩) hS.2.2 d_Mn_up_11
set_option maxHeartbeats 4000000 in
set_option maxRecDepth 100000 in
/-- down(k) -/
theorem c_Mn_down (l : Launch) {D : va_G} {cI cB cR : ClassId} {ad : Nat → Nat} (w : Mt) (sz : Nat) {i v k : Nat} (hi : i < 19) (h3 : W3 w) (hv : NU w i v) (hk : k ≤ 400000) : Met l y_Mn_down (q_Mn_down :: wA) { frames := 1, cells := 0, slots := 0, locals := 60 } (va_Pc [.ref (ad (2 * i + 4)), .int (nI (k))] (PM D cI cB cR ad w sz)) (va_Qv (fun w1 : Mt => eqM w w1 [i] ∧ NU w1 i (v / 2 ^ k) ∧ W3 w1) (BM D cI cB cR ad) (AM ad sz)) 0 0 (AM ad sz) := by
  refine Met.ofW (cc := b_Mn_down) (maxL := 7) (ret := none) (by decide) rfl ?_
  intro p e s m args below meth c s₁ B hml hv
  obtain ⟨rfl, hsz, hP, hD0, hKW⟩ := hv
  have hx := B.exec
  have hb := B.bytes
  have hr := B.returns
  have hts := atoms_spec (ws := q_Mn_down :: wA) B.pre
  have hown : s.vm.findClass R_Mn = some m.cls := findClass_of_methodNamed B.named
  have hlocks := B.notSynchronized
  subst hsz
  have hD := NM_AM (sz := s.heap.size) hD0
  have hS : va_S (AM ad s.heap.size) s.heap s.heap [] := va_S.rf
  have hl := lv_entry ([.ref (ad (2 * i + 4)), .int (nI (k))]) (n := 7) (Nat.le_of_ble_eq_true rfl)
  rw [lg_entry_eq]
  generalize (lg_sl ([.ref (ad (2 * i + 4)), .int (nI (k))]) ++ List.replicate (7 - (lg_sl ([.ref (ad (2 * i + 4)), .int (nI (k))])).length) Slot.unset).toArray = ls at hl ⊢
  have hl : lv_has ls 7 [(0, .ref (ad (2 * i + 4))), (1, .int (nI (k)))] := hl
  have hlen := hv.len
  have hpt : k % 30 < 30 := Nat.mod_lt _ (by decide)
  refine lv_iload_n hx hb d_Mn_down_0 rfl (lv_at hl 1 rfl) ?_
  refine lv_bipush (v := nI (30)) hx hb d_Mn_down_1 (by decide) ?_
  refine nw_idiv (v := nI (k / 30)) hx hb d_Mn_down_3 (nI_ne0 (by omega) (by omega)) (pk_div (by omega) (by omega) (by omega)) ?_
  refine lv_istore_n (lv' := [(2, .int (nI (k / 30))), (0, .ref (ad (2 * i + 4))), (1, .int (nI (k)))]) hx hb d_Mn_down_4 rfl hl (by decide) rfl (fun ls hl => ?_)
  refine lv_iload_n hx hb d_Mn_down_5 rfl (lv_at hl 2 rfl) ?_
  refine lv_bipush (v := nI (30)) hx hb d_Mn_down_6 (by decide) ?_
  refine nw_irem (v := nI (k % 30)) hx hb d_Mn_down_8 (nI_ne0 (by omega) (by omega)) (pk_rem (by omega) (by omega) (by omega)) ?_
  refine lv_istore_n (lv' := [(3, .int (nI (k % 30))), (2, .int (nI (k / 30))), (0, .ref (ad (2 * i + 4))), (1, .int (nI (k)))]) hx hb d_Mn_down_9 rfl hl (by decide) rfl (fun ls hl => ?_)
  refine lv_iload_n hx hb d_Mn_down_10 rfl (lv_at hl 1 rfl) ?_
  refine lv_aload_n hx hb d_Mn_down_11 rfl (lv_at hl 2 rfl) ?_
  refine mw_gL hx hb hts hown hKW.1 hP (i := i) (by omega) (n := mL w i) rfl lf_Mn_15 d_Mn_down_12 ?_
  refine lv_icmp_lt (tgt := 24) hx hb d_Mn_down_15 (by decide) (fun c15 => ?_) (fun c15 => ?_)
  · skip
    have c15 : k / 30 < mL w i := (nI_ltI (by omega) (by omega)).mp c15
    refine lv_iload_n hx hb d_Mn_down_24 rfl (lv_at hl 1 rfl) ?_
    refine lv_istore (lv' := [(4, .int (nI (k / 30))), (3, .int (nI (k % 30))), (2, .int (nI (k / 30))), (0, .ref (ad (2 * i + 4))), (1, .int (nI (k)))]) hx hb d_Mn_down_25 hl (by decide) rfl (fun ls hl => ?_)
    have loop : ∀ (t j : Nat) (f : Nat → Nat) (H : Heap) (locs : List Loc) (ls : Array Slot), k / 30 + j + t = mL w i → B3 f → uV f 0 j * 2 ^ (k % 30) + mW w i (k / 30) % 2 ^ (k % 30) = uV (mW w i) (k / 30) j + (if k / 30 + j < mL w i then mW w i (k / 30 + j) else 0) % 2 ^ (k % 30) * 1073741824 ^ j → (∀ z, k / 30 + j ≤ z → f z = mW w i z) → va_P D clA (NM cI cB cR ad (st w i f (mL w i))) H → va_D (AM ad s.heap.size) (NM cI cB cR ad (st w i f (mL w i))) → va_S (AM ad s.heap.size) s.heap H locs → lv_has ls 7 [(4, .int (nI (k / 30 + j))), (2, .int (nI (k / 30))), (3, .int (nI (k % 30))), (0, .ref (ad (2 * i + 4))), (1, .int (nI (k)))] → W p l e (headSpec (q_Mn_down :: wA) { frames := 1, cells := 0, slots := 0, locals := 60 }).room s m ([.ref (ad (2 * i + 4)), .int (nI (k))] : List Value).toArray below meth c H locs 0 0 (MQ below (va_Qv (fun w1 : Mt => eqM w w1 [i] ∧ NU w1 i (v / 2 ^ k) ∧ W3 w1) (BM D cI cB cR ad) (AM ad s.heap.size)) ([.ref (ad (2 * i + 4)), .int (nI (k))] : List Value).toArray s 0 0 (AM ad s.heap.size)) (F0 m 27 ls []) := by
      intro t
      induction t with
      | zero =>
        intro j f H locs ls hj hB hinv hk9 hP hD hS hl
        refine lv_iload hx hb d_Mn_down_27 (lv_at hl 0 rfl) ?_
        refine lv_aload_n hx hb d_Mn_down_29 rfl (lv_at hl 3 rfl) ?_
        refine mw_gL hx hb hts hown hKW.1 hP (i := i) (by omega) (n := mL w i) (by rw [st_mL]) lf_Mn_15 d_Mn_down_30 ?_
        refine lv_icmp_ge (tgt := 98) hx hb d_Mn_down_33 (by decide) (fun c33 => ?_) (fun c33 => ?_)
        · skip
          have c33 : mL w i ≤ k / 30 + j := (nI_leI (by omega) (by omega)).mp c33
          rw [if_neg (by omega), Nat.zero_mod, Nat.zero_mul, Nat.add_zero] at hinv
          have e := dw_end (h3 i) hv.2.2 (show j = mL w i - k / 30 by omega) hinv (Nat.mod_lt _ (Nat.pow_pos (by decide)))
          rw [Nat.div_add_mod] at e
          refine lv_aload_n hx hb d_Mn_down_98 rfl (lv_at hl 3 rfl) ?_
          refine lv_aload_n hx hb d_Mn_down_99 rfl (lv_at hl 3 rfl) ?_
          refine mw_gL hx hb hts hown hKW.1 hP (i := i) (by omega) (n := mL w i) (by rw [st_mL]) lf_Mn_15 d_Mn_down_100 ?_
          refine lv_iload_n hx hb d_Mn_down_103 rfl (lv_at hl 1 rfl) ?_
          refine nw_isub (v := nI (j)) hx hb d_Mn_down_104 ((pk_sub (by omega)).trans (by rw [show mL w i - k / 30 = j by omega])) ?_
          refine zV_v (As := [.int (nI (j))]) (rest := []) (n := 1) ⟨hx, hb, hml, hown, hts⟩ (c_Mn_trim l (st w i f (mL w i)) _ (i := i) (top := j) hi (h3.st hB) (by omega)) (cwV0 1 hts lm_Mn_32 im_Mn_trim se_Mn_trim in_Mn kq_Mn_trim rfl rfl rfl (by decide +kernel) ⟨Nat.le_of_ble_eq_true rfl, Nat.le_of_ble_eq_true rfl⟩) (recMn hKW.1 hP (i := i) (by omega)) hKW hP hD hS rfl hl.1 rfl (Nat.le_of_ble_eq_true rfl) d_Mn_down_105 ⟨Nat.zero_le _, Nat.zero_le _⟩ (fun w1 H locs hp hP hD hS => ?_)
          rw [hp, st_mW, st_st] at hP hD
          exact W.vret hx hb hr (fun t ht hW => ⟨⟨st w i f (tm f j), rfl, ⟨eqM_st _ _ _ _, e ▸ NU_tr (by omega), h3.st hB⟩, BM_of ht hP⟩, hS.F ht⟩) hS.2.2 d_Mn_down_108
        · skip
          have c33 : ¬ (mL w i ≤ k / 30 + j) := fun h => c33 ((nI_leI (by omega) (by omega)).mpr h)
          omega
      | succ t ih =>
        intro j f H locs ls hj hB hinv hk9 hP hD hS hl
        refine lv_iload hx hb d_Mn_down_27 (lv_at hl 0 rfl) ?_
        refine lv_aload_n hx hb d_Mn_down_29 rfl (lv_at hl 3 rfl) ?_
        refine mw_gL hx hb hts hown hKW.1 hP (i := i) (by omega) (n := mL w i) (by rw [st_mL]) lf_Mn_15 d_Mn_down_30 ?_
        refine lv_icmp_ge (tgt := 98) hx hb d_Mn_down_33 (by decide) (fun c33 => ?_) (fun c33 => ?_)
        · skip
          have c33 : mL w i ≤ k / 30 + j := (nI_leI (by omega) (by omega)).mp c33
          omega
        · skip
          have c33 : ¬ (mL w i ≤ k / 30 + j) := fun h => c33 ((nI_leI (by omega) (by omega)).mpr h)
          rw [if_pos (by omega)] at hinv
          have hf9 := hB (k / 30 + j)
          have hf8 := hB (k / 30 + j + 1)
          have hg9 := hk9 (k / 30 + j) (Nat.le_refl _)
          refine lv_aload_n hx hb d_Mn_down_36 rfl (lv_at hl 3 rfl) ?_
          refine mw_gW hx hb hts hown hKW.1 hP (i := i) (by omega) lf_Mn_9 d_Mn_down_37 ?_
          refine lv_iload hx hb d_Mn_down_40 (lv_at hl 0 rfl) ?_
          refine mw_lW hx hb hKW.1 hP (i := i) (by omega) (j := k / 30 + j) (by omega) (x := f (k / 30 + j)) (by rw [st_mW]) d_Mn_down_42 ?_
          refine lv_i2l (v := lN (f (k / 30 + j))) hx hb d_Mn_down_43 (nI_l (by omega)) ?_
          refine lv_iload hx hb d_Mn_down_44 (lv_at hl 0 rfl) ?_
          refine lv_iconst (v := nI (1)) hx hb d_Mn_down_46 (by decide) ?_
          refine nw_iadd (v := nI (k / 30 + j + 1)) hx hb d_Mn_down_47 (nI_add _ _) ?_
          refine lv_aload_n hx hb d_Mn_down_48 rfl (lv_at hl 3 rfl) ?_
          refine mw_gL hx hb hts hown hKW.1 hP (i := i) (by omega) (n := mL w i) (by rw [st_mL]) lf_Mn_15 d_Mn_down_49 ?_
          refine lv_icmp_ge (tgt := 71) hx hb d_Mn_down_52 (by decide) (fun c52 => ?_) (fun c52 => ?_)
          · skip
            have c52 : mL w i ≤ k / 30 + j + 1 := (nI_leI (by omega) (by omega)).mp c52
            have hS9 : f (k / 30 + j) + 0 * 1073741824 < 2 ^ 63 := by omega
            refine lv_lconst (v := lN (0)) hx hb d_Mn_down_71 (by decide) ?_
            refine nw_lor (v := lN (f (k / 30 + j) + 0 * 1073741824)) hx hb d_Mn_down_72 (lN_or0 hf9) ?_
            refine lv_lstore (lv' := [(5, .long (lN (f (k / 30 + j) + 0 * 1073741824))), (4, .int (nI (k / 30 + j))), (2, .int (nI (k / 30))), (3, .int (nI (k % 30))), (0, .ref (ad (2 * i + 4))), (1, .int (nI (k)))]) hx hb d_Mn_down_73 hl (by decide) rfl (fun ls hl => ?_)
            refine lv_aload_n hx hb d_Mn_down_75 rfl (lv_at hl 4 rfl) ?_
            refine mw_gW hx hb hts hown hKW.1 hP (i := i) (by omega) lf_Mn_9 d_Mn_down_76 ?_
            refine lv_iload hx hb d_Mn_down_79 (lv_at hl 1 rfl) ?_
            refine lv_iload_n hx hb d_Mn_down_81 rfl (lv_at hl 2 rfl) ?_
            refine nw_isub (v := nI (j)) hx hb d_Mn_down_82 (pk_subL _ _) ?_
            refine lv_lload hx hb d_Mn_down_83 (lv_at hl 0 rfl) ?_
            refine lv_iload_n hx hb d_Mn_down_85 rfl (lv_at hl 3 rfl) ?_
            refine lv_lshr (v := lN ((f (k / 30 + j) + 0 * 1073741824) / 2 ^ (k % 30))) hx hb d_Mn_down_86 (lN_srk (by omega) (by omega)) ?_
            refine lv_l2i (v := nI ((f (k / 30 + j) + 0 * 1073741824) / 2 ^ (k % 30))) hx hb d_Mn_down_87 (lN_i _) ?_
            refine lv_ldc (v := 1073741823) hx hb hown (hA_ hts lk_Mn_25) d_Mn_down_88 ?_
            refine nw_iand (v := nI (((f (k / 30 + j) + 0 * 1073741824) / 2 ^ (k % 30)) % 1073741824)) hx hb d_Mn_down_90 (nI_mask _) ?_
            refine mw_sW hx hb hKW.1 hP hD hS (i := i) (by omega) (j := j) (by omega) d_Mn_down_91 (fun H locs hP hD hS => ?_)
            rw [st_qW, st_mW] at hP hD
            refine lv_iinc (v := nI (k / 30 + j + 1)) (lv' := [(4, .int (nI (k / 30 + j + 1))), (5, .long (lN (f (k / 30 + j) + 0 * 1073741824))), (2, .int (nI (k / 30))), (3, .int (nI (k % 30))), (0, .ref (ad (2 * i + 4))), (1, .int (nI (k)))]) hx hb d_Mn_down_92 hl (k := 1) rfl (nI_add _ 1) (by decide) rfl (fun ls hl => ?_)
            refine lv_goto (tgt := 27) hx hb d_Mn_down_95 (by decide) ?_
            rw [← hg9] at hinv
            have hst := dw_step (y := 0) hpt hf9 hinv
            refine ih (j + 1) _ H locs ls (by omega) (upM_B hB (p3_mod _)) ?_ (fun z hz => by rw [upM_n (by omega)]; exact hk9 z (by omega)) hP hD hS (lv_sub hl [0, 2, 3, 4, 5] rfl)
            rw [uV_suc (mW w i) (k / 30) j, ← hg9, hst]
            rw [if_neg (by omega)]
          · skip
            have c52 : ¬ (mL w i ≤ k / 30 + j + 1) := fun h => c52 ((nI_leI (by omega) (by omega)).mpr h)
            have hS9 : f (k / 30 + j) + f (k / 30 + j + 1) * 1073741824 < 2 ^ 63 := by omega
            refine lv_aload_n hx hb d_Mn_down_55 rfl (lv_at hl 3 rfl) ?_
            refine mw_gW hx hb hts hown hKW.1 hP (i := i) (by omega) lf_Mn_9 d_Mn_down_56 ?_
            refine lv_iload hx hb d_Mn_down_59 (lv_at hl 0 rfl) ?_
            refine lv_iconst (v := nI (1)) hx hb d_Mn_down_61 (by decide) ?_
            refine nw_iadd (v := nI (k / 30 + j + 1)) hx hb d_Mn_down_62 (nI_add _ _) ?_
            refine mw_lW hx hb hKW.1 hP (i := i) (by omega) (j := k / 30 + j + 1) (by omega) (x := f (k / 30 + j + 1)) (by rw [st_mW]) d_Mn_down_63 ?_
            refine lv_i2l (v := lN (f (k / 30 + j + 1))) hx hb d_Mn_down_64 (nI_l (by omega)) ?_
            refine lv_bipush (v := nI (30)) hx hb d_Mn_down_65 (by decide) ?_
            refine lv_lshl (v := lN ((f (k / 30 + j + 1)) * 1073741824)) hx hb d_Mn_down_67 (lN_shl _ (by decide)) ?_
            refine lv_goto (tgt := 72) hx hb d_Mn_down_68 (by decide) ?_
            refine nw_lor (v := lN (f (k / 30 + j) + f (k / 30 + j + 1) * 1073741824)) hx hb d_Mn_down_72 (lN_orB hf9 hf8) ?_
            refine lv_lstore (lv' := [(5, .long (lN (f (k / 30 + j) + f (k / 30 + j + 1) * 1073741824))), (4, .int (nI (k / 30 + j))), (2, .int (nI (k / 30))), (3, .int (nI (k % 30))), (0, .ref (ad (2 * i + 4))), (1, .int (nI (k)))]) hx hb d_Mn_down_73 hl (by decide) rfl (fun ls hl => ?_)
            refine lv_aload_n hx hb d_Mn_down_75 rfl (lv_at hl 4 rfl) ?_
            refine mw_gW hx hb hts hown hKW.1 hP (i := i) (by omega) lf_Mn_9 d_Mn_down_76 ?_
            refine lv_iload hx hb d_Mn_down_79 (lv_at hl 1 rfl) ?_
            refine lv_iload_n hx hb d_Mn_down_81 rfl (lv_at hl 2 rfl) ?_
            refine nw_isub (v := nI (j)) hx hb d_Mn_down_82 (pk_subL _ _) ?_
            refine lv_lload hx hb d_Mn_down_83 (lv_at hl 0 rfl) ?_
            refine lv_iload_n hx hb d_Mn_down_85 rfl (lv_at hl 3 rfl) ?_
            refine lv_lshr (v := lN ((f (k / 30 + j) + f (k / 30 + j + 1) * 1073741824) / 2 ^ (k % 30))) hx hb d_Mn_down_86 (lN_srk (by omega) (by omega)) ?_
            refine lv_l2i (v := nI ((f (k / 30 + j) + f (k / 30 + j + 1) * 1073741824) / 2 ^ (k % 30))) hx hb d_Mn_down_87 (lN_i _) ?_
            refine lv_ldc (v := 1073741823) hx hb hown (hA_ hts lk_Mn_25) d_Mn_down_88 ?_
            refine nw_iand (v := nI (((f (k / 30 + j) + f (k / 30 + j + 1) * 1073741824) / 2 ^ (k % 30)) % 1073741824)) hx hb d_Mn_down_90 (nI_mask _) ?_
            refine mw_sW hx hb hKW.1 hP hD hS (i := i) (by omega) (j := j) (by omega) d_Mn_down_91 (fun H locs hP hD hS => ?_)
            rw [st_qW, st_mW] at hP hD
            refine lv_iinc (v := nI (k / 30 + j + 1)) (lv' := [(4, .int (nI (k / 30 + j + 1))), (5, .long (lN (f (k / 30 + j) + f (k / 30 + j + 1) * 1073741824))), (2, .int (nI (k / 30))), (3, .int (nI (k % 30))), (0, .ref (ad (2 * i + 4))), (1, .int (nI (k)))]) hx hb d_Mn_down_92 hl (k := 1) rfl (nI_add _ 1) (by decide) rfl (fun ls hl => ?_)
            refine lv_goto (tgt := 27) hx hb d_Mn_down_95 (by decide) ?_
            rw [← hg9] at hinv
            have hst := dw_step (y := f (k / 30 + j + 1)) hpt hf9 hinv
            refine ih (j + 1) _ H locs ls (by omega) (upM_B hB (p3_mod _)) ?_ (fun z hz => by rw [upM_n (by omega)]; exact hk9 z (by omega)) hP hD hS (lv_sub hl [0, 2, 3, 4, 5] rfl)
            rw [uV_suc (mW w i) (k / 30) j, ← hg9, hst]
            rw [if_pos (by omega), show k / 30 + (j + 1) = k / 30 + j + 1 by omega, hk9 (k / 30 + j + 1) (by omega)]
    exact loop (mL w i - k / 30) 0 _ _ _ ls (by omega) (h3 i) (by rw [uV_0, uV_0, Nat.zero_mul, Nat.zero_add, Nat.zero_add, Nat.pow_zero, Nat.mul_one, if_pos (by omega), Nat.add_zero]) (fun _ _ => rfl) (by rw [st_self]; exact hP) (by rw [st_self]; exact hD) hS (lv_sub hl [0, 2, 1, 3, 4] rfl)
  · skip
    have c15 : ¬ (k / 30 < mL w i) := fun h => c15 ((nI_ltI (by omega) (by omega)).mpr h)
    refine lv_aload_n hx hb d_Mn_down_18 rfl (lv_at hl 2 rfl) ?_
    refine lv_iconst (v := nI (0)) hx hb d_Mn_down_19 (by decide) ?_
    refine mw_pL hx hb hts hown hKW.1 hP hD hS (i := i) (by omega) lf_Mn_15 d_Mn_down_20 (fun H locs hP hD hS => ?_)
    rw [st_ofL] at hP hD
    have h0 : v / 2 ^ k = 0 := Nat.div_eq_of_lt (Nat.lt_of_lt_of_le (hv.lt h3) (by rw [pw3]; exact Nat.pow_le_pow_right (by decide) (by omega)))
    exact W.vret hx hb hr (fun t ht hW => ⟨⟨st w i (mW w i) 0, rfl, ⟨eqM_st _ _ _ _, NU_st (by omega) (Or.inl rfl) (by rw [h0]; rfl), h3.st (h3 i)⟩, BM_of ht hP⟩, hS.F ht⟩) hS.2.2 d_Mn_down_23

/-! NUMBERS: the contracts of Natural, 4: sums and differences (rows laid by wip/whole/gen/c_na4.py) -/
set_option maxHeartbeats 4000000 in
set_option maxRecDepth 100000 in
/-- putSum(a, b) -/
theorem c_Na_putSum (l : Launch) {D : va_G} {cI cB cR : ClassId} {ad : Nat → Nat} (w : St) (sz : Nat) {i a b v u : Nat} (hi : i < 14) (ha : a < 14) (hb14 : b < 14) (hv : NV w a v) (hu : NV w b u) (hla : sL w a ≤ 6271) (hlb : sL w b ≤ 6271) : Met l y_Na_putSum (q_Na_putSum :: wA) { frames := 1, cells := 0, slots := 0, locals := 24 } (va_Pc [.ref (ad (2 * i + 8)), .ref (ad (2 * a + 8)), .ref (ad (2 * b + 8))] (PW D cI cB cR ad w sz)) (va_Qv (fun w1 : St => eqN w w1 i ∧ NV w1 i (v + u)) (BW D cI cB cR ad) (AA ad sz)) 0 0 (AA ad sz) := by
  refine Met.ofW (cc := b_Na_putSum) (maxL := 10) (ret := none) (by decide) rfl ?_
  intro p e s m args below meth c s₁ B hml hv
  obtain ⟨rfl, hsz, hP, hD0, hKW⟩ := hv
  have hx := B.exec
  have hb := B.bytes
  have hr := B.returns
  have hts := atoms_spec (ws := q_Na_putSum :: wA) B.pre
  have hown : s.vm.findClass R_Na = some m.cls := findClass_of_methodNamed B.named
  have hlocks := B.notSynchronized
  subst hsz
  have hD := NC_AA (sz := s.heap.size) hD0
  have hS : va_S (AA ad s.heap.size) s.heap s.heap [] := va_S.rf
  have hl := lv_entry ([.ref (ad (2 * i + 8)), .ref (ad (2 * a + 8)), .ref (ad (2 * b + 8))]) (n := 10) (Nat.le_of_ble_eq_true rfl)
  rw [lg_entry_eq]
  generalize (lg_sl ([.ref (ad (2 * i + 8)), .ref (ad (2 * a + 8)), .ref (ad (2 * b + 8))]) ++ List.replicate (10 - (lg_sl ([.ref (ad (2 * i + 8)), .ref (ad (2 * a + 8)), .ref (ad (2 * b + 8))])).length) Slot.unset).toArray = ls at hl ⊢
  have hl : lv_has ls 10 [(0, .ref (ad (2 * i + 8))), (1, .ref (ad (2 * a + 8))), (2, .ref (ad (2 * b + 8)))] := hl
  refine lv_aload_n hx hb d_Na_putSum_0 rfl (lv_at hl 1 rfl) ?_
  refine nw_gL hx hb hts hown hKW.1 hP (i := a) (by omega) (n := sL (w) a) rfl lf_Na_15 d_Na_putSum_1 ?_
  refine lv_aload_n hx hb d_Na_putSum_4 rfl (lv_at hl 2 rfl) ?_
  refine nw_gL hx hb hts hown hKW.1 hP (i := b) (by omega) (n := sL (w) b) rfl lf_Na_15 d_Na_putSum_5 ?_
  refine lv_icmp_lt (tgt := 15) hx hb d_Na_putSum_8 (by decide) (fun c8 => ?_) (fun c8 => ?_)
  · skip
    have c8 : sL (w) a < sL (w) b := (nI_ltI (by omega) (by omega)).mp c8
    refine lv_aload_n hx hb d_Na_putSum_15 rfl (lv_at hl 2 rfl) ?_
    refine lv_astore_n (lv' := [(3, .ref (ad (2 * b + 8))), (0, .ref (ad (2 * i + 8))), (1, .ref (ad (2 * a + 8))), (2, .ref (ad (2 * b + 8)))]) hx hb d_Na_putSum_16 rfl hl (by decide) rfl (fun ls hl => ?_)
    refine lv_aload_n hx hb d_Na_putSum_17 rfl (lv_at hl 2 rfl) ?_
    refine nw_gL hx hb hts hown hKW.1 hP (i := a) (by omega) (n := sL (w) a) rfl lf_Na_15 d_Na_putSum_18 ?_
    refine lv_aload_n hx hb d_Na_putSum_21 rfl (lv_at hl 3 rfl) ?_
    refine nw_gL hx hb hts hown hKW.1 hP (i := b) (by omega) (n := sL (w) b) rfl lf_Na_15 d_Na_putSum_22 ?_
    refine lv_icmp_lt (tgt := 32) hx hb d_Na_putSum_25 (by decide) (fun c25 => ?_) (fun c25 => ?_)
    · skip
      have c25 : sL (w) a < sL (w) b := (nI_ltI (by omega) (by omega)).mp c25
      refine lv_aload_n hx hb d_Na_putSum_32 rfl (lv_at hl 2 rfl) ?_
      refine lv_astore (lv' := [(4, .ref (ad (2 * a + 8))), (3, .ref (ad (2 * b + 8))), (0, .ref (ad (2 * i + 8))), (1, .ref (ad (2 * a + 8))), (2, .ref (ad (2 * b + 8)))]) hx hb d_Na_putSum_33 hl (by decide) rfl (fun ls hl => ?_)
      refine lv_aload_n hx hb d_Na_putSum_35 rfl (lv_at hl 1 rfl) ?_
      refine nw_gL hx hb hts hown hKW.1 hP (i := b) (by omega) (n := sL (w) b) rfl lf_Na_15 d_Na_putSum_36 ?_
      refine lv_istore (lv' := [(5, .int (nI (sL (w) b))), (4, .ref (ad (2 * a + 8))), (3, .ref (ad (2 * b + 8))), (0, .ref (ad (2 * i + 8))), (1, .ref (ad (2 * a + 8))), (2, .ref (ad (2 * b + 8)))]) hx hb d_Na_putSum_39 hl (by decide) rfl (fun ls hl => ?_)
      refine lv_aload hx hb d_Na_putSum_41 (lv_at hl 1 rfl) ?_
      refine nw_gL hx hb hts hown hKW.1 hP (i := a) (by omega) (n := sL (w) a) rfl lf_Na_15 d_Na_putSum_43 ?_
      refine lv_istore (lv' := [(6, .int (nI (sL (w) a))), (5, .int (nI (sL (w) b))), (4, .ref (ad (2 * a + 8))), (3, .ref (ad (2 * b + 8))), (0, .ref (ad (2 * i + 8))), (1, .ref (ad (2 * a + 8))), (2, .ref (ad (2 * b + 8)))]) hx hb d_Na_putSum_46 hl (by decide) rfl (fun ls hl => ?_)
      refine lv_lconst (v := lN (0)) hx hb d_Na_putSum_48 (by decide) ?_
      refine lv_lstore (lv' := [(7, .long (lN (0))), (6, .int (nI (sL (w) a))), (5, .int (nI (sL (w) b))), (4, .ref (ad (2 * a + 8))), (3, .ref (ad (2 * b + 8))), (0, .ref (ad (2 * i + 8))), (1, .ref (ad (2 * a + 8))), (2, .ref (ad (2 * b + 8)))]) hx hb d_Na_putSum_49 hl (by decide) rfl (fun ls hl => ?_)
      refine lv_iconst (v := nI (0)) hx hb d_Na_putSum_51 (by decide) ?_
      refine lv_istore (lv' := [(9, .int (nI (0))), (7, .long (lN (0))), (6, .int (nI (sL (w) a))), (5, .int (nI (sL (w) b))), (4, .ref (ad (2 * a + 8))), (3, .ref (ad (2 * b + 8))), (0, .ref (ad (2 * i + 8))), (1, .ref (ad (2 * a + 8))), (2, .ref (ad (2 * b + 8)))]) hx hb d_Na_putSum_52 hl (by decide) rfl (fun ls hl => ?_)
      have loop : ∀ (n j : Nat) (f : Nat → Int32) (cy : Nat) (H : Heap) (locs : List Loc) (ls : Array Slot), j + n = sL w b → vN f 0 j + cy * 4294967296 ^ j = vN (sW w b) 0 j + vM (sW w a) (sL w a) j → (∀ q, j ≤ q → f q = sW w i q) → cy ≤ 1 → va_P D clA (NC cI cB cR ad (pW w i f)) H → va_D (AA ad s.heap.size) (NC cI cB cR ad (pW w i f)) → va_S (AA ad s.heap.size) s.heap H locs → lv_has ls 10 [(9, .int (nI (j))), (7, .long (lN (cy))), (6, .int (nI (sL w a))), (5, .int (nI (sL w b))), (4, .ref (ad (2 * a + 8))), (3, .ref (ad (2 * b + 8))), (0, .ref (ad (2 * i + 8))), (1, .ref (ad (2 * a + 8))), (2, .ref (ad (2 * b + 8)))] → W p l e (headSpec (q_Na_putSum :: wA) { frames := 1, cells := 0, slots := 0, locals := 24 }).room s m ([.ref (ad (2 * i + 8)), .ref (ad (2 * a + 8)), .ref (ad (2 * b + 8))] : List Value).toArray below meth c H locs 0 0 (MQ below (va_Qv (fun w1 : St => eqN w w1 i ∧ NV w1 i (v + u)) (BW D cI cB cR ad) (AA ad s.heap.size)) ([.ref (ad (2 * i + 8)), .ref (ad (2 * a + 8)), .ref (ad (2 * b + 8))] : List Value).toArray s 0 0 (AA ad s.heap.size)) (F0 m 54 ls []) := by
        intro n
        induction n with
        | zero =>
          intro j f cy H locs ls hj hinv hf hc hP hD hS hl
          refine lv_iload hx hb d_Na_putSum_54 (lv_at hl 0 rfl) ?_
          refine lv_iload hx hb d_Na_putSum_56 (lv_at hl 3 rfl) ?_
          refine lv_icmp_ge (tgt := 126) hx hb d_Na_putSum_58 (by decide) (fun c58 => ?_) (fun c58 => ?_)
          · skip
            have c58 : sL w b ≤ j := (nI_leI (by omega) (by omega)).mp c58
            have ej : j = sL w b := by omega
            subst ej
            refine lv_aload_n hx hb d_Na_putSum_126 rfl (lv_at hl 6 rfl) ?_
            refine nw_gW hx hb hts hown hKW.1 hP (i := i) (by omega) lf_Na_9 d_Na_putSum_127 ?_
            refine lv_iload hx hb d_Na_putSum_130 (lv_at hl 3 rfl) ?_
            refine lv_lload hx hb d_Na_putSum_132 (lv_at hl 1 rfl) ?_
            refine lv_l2i (v := nI (cy)) hx hb d_Na_putSum_134 (lN_i _) ?_
            refine nw_sW hx hb hKW.1 hP hD hS (i := i) (by omega) (j := sL w b) (by omega) d_Na_putSum_135 (fun H locs hP hD hS => ?_)
            refine lv_aload_n hx hb d_Na_putSum_136 rfl (lv_at hl 6 rfl) ?_
            refine lv_iload hx hb d_Na_putSum_137 (lv_at hl 3 rfl) ?_
            refine lv_iconst (v := nI (1)) hx hb d_Na_putSum_139 (by decide) ?_
            refine nw_iadd (v := nI (sL w b + 1)) hx hb d_Na_putSum_140 (nI_add _ _) ?_
            refine wV_v (As := [.int (nI (sL w b + 1))]) (rest := []) (n := 1) ⟨hx, hb, hml, hown, hts⟩ (c_Na_trim l (pW (pW w i f) i (upd (sW (pW w i f) i) (sL w b) (nI (cy)))) _ (i := i) (n := sL w b + 1) hi (by omega)) (cwV0 1 hts lm_Na_23 im_Na_trim se_Na_trim in_Na kq_Na_trim rfl rfl rfl (by decide +kernel) ⟨Nat.le_of_ble_eq_true rfl, Nat.le_of_ble_eq_true rfl⟩) (recvN hKW.1 hP (i := i) (by omega)) hKW hP hD hS rfl hl.1 rfl (Nat.le_of_ble_eq_true rfl) d_Na_putSum_141 ⟨Nat.zero_le _, Nat.zero_le _⟩ (fun w1 H locs hp hP hD hS => ?_)
            simp only [sW_pW, pW_pW] at hp
            have e2 : vN (upd f (sL w b) (nI cy)) 0 (sL w b + 1) = v + u := by
              rw [vN_suc0, pk_us, vN_out (Or.inr (by omega)), wN_nI, Nat.mod_eq_of_lt (by omega), hinv, vM_all (by omega), hu.2.2, hv.2.2]; omega
            exact W.vret hx hb hr (fun t ht hW => ⟨⟨w1, rfl, ⟨by rw [hp]; exact eqN_tr w i _ _, by rw [hp]; have := NV_tr (w := w) (i := i) (n := sL w b + 1) (f := upd f (sL w b) (nI cy)) (by omega); rw [e2] at this; exact this⟩, BW_of ht hP⟩, hS.F ht⟩) hS.2.2 d_Na_putSum_144
          · exact absurd (nI_le (by omega) (by omega)) c58
        | succ n ih =>
          intro j f cy H locs ls hj hinv hf hc hP hD hS hl
          refine lv_iload hx hb d_Na_putSum_54 (lv_at hl 0 rfl) ?_
          refine lv_iload hx hb d_Na_putSum_56 (lv_at hl 3 rfl) ?_
          refine lv_icmp_ge (tgt := 126) hx hb d_Na_putSum_58 (by decide) (fun c58 => ?_) (fun c58 => ?_)
          · exact absurd c58 (nI_ge (by omega) (by omega))
          · skip
            refine lv_lload hx hb d_Na_putSum_61 (lv_at hl 1 rfl) ?_
            refine lv_aload_n hx hb d_Na_putSum_63 rfl (lv_at hl 5 rfl) ?_
            refine nw_gW hx hb hts hown hKW.1 hP (i := b) (by omega) lf_Na_9 d_Na_putSum_64 ?_
            refine lv_iload hx hb d_Na_putSum_67 (lv_at hl 0 rfl) ?_
            refine nw_lW hx hb hKW.1 hP (i := b) (by omega) (j := j) (by omega) (x := sW w b j) (rdW hf (Nat.le_refl j)) d_Na_putSum_69 ?_
            refine lv_i2l (v := (sW w b j).toInt64) hx hb d_Na_putSum_70 rfl ?_
            refine lv_ldc2 (v := 4294967295) hx hb hown (hA_ hts ll_Na_33) d_Na_putSum_71 ?_
            refine nw_land (v := lN (wN ((sW w b j)))) hx hb d_Na_putSum_74 (lw_low _) ?_
            refine lv_iload hx hb d_Na_putSum_75 (lv_at hl 0 rfl) ?_
            refine lv_iload hx hb d_Na_putSum_77 (lv_at hl 2 rfl) ?_
            refine lv_icmp_ge (tgt := 98) hx hb d_Na_putSum_79 (by decide) (fun c79 => ?_) (fun c79 => ?_)
            · skip
              have c79 : sL w a ≤ j := (nI_leI (by omega) (by omega)).mp c79
              refine lv_lconst (v := lN (0)) hx hb d_Na_putSum_98 (by decide) ?_
              refine nw_ladd (v := lN (wN ((sW w b j)) + 0)) hx hb d_Na_putSum_99 (lN_add _ _) ?_
              refine nw_ladd (v := lN (cy + (wN ((sW w b j)) + 0))) hx hb d_Na_putSum_100 (lN_add _ _) ?_
              have hS1 := wN_lt (sW w b j)
              have hS2 := wN_lt (sW w a j)
              refine lv_lstore (lv' := [(7, .long (lN (cy + (wN ((sW w b j)) + 0)))), (9, .int (nI (j))), (6, .int (nI (sL w a))), (5, .int (nI (sL w b))), (4, .ref (ad (2 * a + 8))), (3, .ref (ad (2 * b + 8))), (0, .ref (ad (2 * i + 8))), (1, .ref (ad (2 * a + 8))), (2, .ref (ad (2 * b + 8)))]) hx hb d_Na_putSum_101 hl (by decide) rfl (fun ls hl => ?_)
              refine lv_aload_n hx hb d_Na_putSum_103 rfl (lv_at hl 6 rfl) ?_
              refine nw_gW hx hb hts hown hKW.1 hP (i := i) (by omega) lf_Na_9 d_Na_putSum_104 ?_
              refine lv_iload hx hb d_Na_putSum_107 (lv_at hl 1 rfl) ?_
              refine lv_lload hx hb d_Na_putSum_109 (lv_at hl 0 rfl) ?_
              refine lv_l2i (v := nI (cy + (wN ((sW w b j)) + 0))) hx hb d_Na_putSum_111 (lN_i _) ?_
              refine nw_sW hx hb hKW.1 hP hD hS (i := i) (by omega) (j := j) (by omega) d_Na_putSum_112 (fun H locs hP hD hS => ?_)
              refine lv_lload hx hb d_Na_putSum_113 (lv_at hl 0 rfl) ?_
              refine lv_bipush (v := nI (32)) hx hb d_Na_putSum_115 (by decide) ?_
              refine lv_lushr (v := lN ((cy + (wN ((sW w b j)) + 0)) / 4294967296)) hx hb d_Na_putSum_117 (lN_shr32 (by omega)) ?_
              refine lv_lstore (lv' := [(7, .long (lN ((cy + (wN ((sW w b j)) + 0)) / 4294967296))), (9, .int (nI (j))), (6, .int (nI (sL w a))), (5, .int (nI (sL w b))), (4, .ref (ad (2 * a + 8))), (3, .ref (ad (2 * b + 8))), (0, .ref (ad (2 * i + 8))), (1, .ref (ad (2 * a + 8))), (2, .ref (ad (2 * b + 8)))]) hx hb d_Na_putSum_118 hl (by decide) rfl (fun ls hl => ?_)
              refine lv_iinc (v := nI (j + 1)) (lv' := [(9, .int (nI (j + 1))), (7, .long (lN ((cy + (wN ((sW w b j)) + 0)) / 4294967296))), (6, .int (nI (sL w a))), (5, .int (nI (sL w b))), (4, .ref (ad (2 * a + 8))), (3, .ref (ad (2 * b + 8))), (0, .ref (ad (2 * i + 8))), (1, .ref (ad (2 * a + 8))), (2, .ref (ad (2 * b + 8)))]) hx hb d_Na_putSum_120 hl (k := 1) rfl (nI_add _ 1) (by decide) rfl (fun ls hl => ?_)
              refine lv_goto (tgt := 54) hx hb d_Na_putSum_123 (by decide) ?_
              rw [sW_pW, pW_pW] at hP hD
              exact ih (j + 1) (upd f j (nI (cy + (wN (sW w b j) + 0)))) ((cy + (wN (sW w b j) + 0)) / 4294967296) H locs ls (by omega) (by rw [ch_add0 hinv, vN_suc0, vM_ge c79, Nat.add_mul]; omega) (fun q hq => by rw [pk_un (by omega)]; exact hf q (by omega)) (by omega) hP hD hS (lv_sub hl [0, 1, 2, 3, 4, 5, 6, 7, 8] rfl)
            · skip
              have c79 : ¬ (sL w a ≤ j) := fun h => c79 ((nI_leI (by omega) (by omega)).mpr h)
              refine lv_aload hx hb d_Na_putSum_82 (lv_at hl 4 rfl) ?_
              refine nw_gW hx hb hts hown hKW.1 hP (i := a) (by omega) lf_Na_9 d_Na_putSum_84 ?_
              refine lv_iload hx hb d_Na_putSum_87 (lv_at hl 0 rfl) ?_
              refine nw_lW hx hb hKW.1 hP (i := a) (by omega) (j := j) (by omega) (x := sW w a j) (rdW hf (Nat.le_refl j)) d_Na_putSum_89 ?_
              refine lv_i2l (v := (sW w a j).toInt64) hx hb d_Na_putSum_90 rfl ?_
              refine lv_ldc2 (v := 4294967295) hx hb hown (hA_ hts ll_Na_33) d_Na_putSum_91 ?_
              refine nw_land (v := lN (wN ((sW w a j)))) hx hb d_Na_putSum_94 (lw_low _) ?_
              refine lv_goto (tgt := 99) hx hb d_Na_putSum_95 (by decide) ?_
              refine nw_ladd (v := lN (wN ((sW w b j)) + (wN ((sW w a j))))) hx hb d_Na_putSum_99 (lN_add _ _) ?_
              refine nw_ladd (v := lN (cy + (wN ((sW w b j)) + (wN ((sW w a j)))))) hx hb d_Na_putSum_100 (lN_add _ _) ?_
              have hS1 := wN_lt (sW w b j)
              have hS2 := wN_lt (sW w a j)
              refine lv_lstore (lv' := [(7, .long (lN (cy + (wN ((sW w b j)) + (wN ((sW w a j))))))), (9, .int (nI (j))), (6, .int (nI (sL w a))), (5, .int (nI (sL w b))), (4, .ref (ad (2 * a + 8))), (3, .ref (ad (2 * b + 8))), (0, .ref (ad (2 * i + 8))), (1, .ref (ad (2 * a + 8))), (2, .ref (ad (2 * b + 8)))]) hx hb d_Na_putSum_101 hl (by decide) rfl (fun ls hl => ?_)
              refine lv_aload_n hx hb d_Na_putSum_103 rfl (lv_at hl 6 rfl) ?_
              refine nw_gW hx hb hts hown hKW.1 hP (i := i) (by omega) lf_Na_9 d_Na_putSum_104 ?_
              refine lv_iload hx hb d_Na_putSum_107 (lv_at hl 1 rfl) ?_
              refine lv_lload hx hb d_Na_putSum_109 (lv_at hl 0 rfl) ?_
              refine lv_l2i (v := nI (cy + (wN ((sW w b j)) + (wN ((sW w a j)))))) hx hb d_Na_putSum_111 (lN_i _) ?_
              refine nw_sW hx hb hKW.1 hP hD hS (i := i) (by omega) (j := j) (by omega) d_Na_putSum_112 (fun H locs hP hD hS => ?_)
              refine lv_lload hx hb d_Na_putSum_113 (lv_at hl 0 rfl) ?_
              refine lv_bipush (v := nI (32)) hx hb d_Na_putSum_115 (by decide) ?_
              refine lv_lushr (v := lN ((cy + (wN ((sW w b j)) + (wN ((sW w a j))))) / 4294967296)) hx hb d_Na_putSum_117 (lN_shr32 (by omega)) ?_
              refine lv_lstore (lv' := [(7, .long (lN ((cy + (wN ((sW w b j)) + (wN ((sW w a j))))) / 4294967296))), (9, .int (nI (j))), (6, .int (nI (sL w a))), (5, .int (nI (sL w b))), (4, .ref (ad (2 * a + 8))), (3, .ref (ad (2 * b + 8))), (0, .ref (ad (2 * i + 8))), (1, .ref (ad (2 * a + 8))), (2, .ref (ad (2 * b + 8)))]) hx hb d_Na_putSum_118 hl (by decide) rfl (fun ls hl => ?_)
              refine lv_iinc (v := nI (j + 1)) (lv' := [(9, .int (nI (j + 1))), (7, .long (lN ((cy + (wN ((sW w b j)) + (wN ((sW w a j))))) / 4294967296))), (6, .int (nI (sL w a))), (5, .int (nI (sL w b))), (4, .ref (ad (2 * a + 8))), (3, .ref (ad (2 * b + 8))), (0, .ref (ad (2 * i + 8))), (1, .ref (ad (2 * a + 8))), (2, .ref (ad (2 * b + 8)))]) hx hb d_Na_putSum_120 hl (k := 1) rfl (nI_add _ 1) (by decide) rfl (fun ls hl => ?_)
              refine lv_goto (tgt := 54) hx hb d_Na_putSum_123 (by decide) ?_
              rw [sW_pW, pW_pW] at hP hD
              exact ih (j + 1) (upd f j (nI (cy + (wN (sW w b j) + wN (sW w a j))))) ((cy + (wN (sW w b j) + wN (sW w a j))) / 4294967296) H locs ls (by omega) (by rw [ch_add0 hinv, vN_suc0, vM_lt (Nat.not_le.mp c79), Nat.add_mul]; omega) (fun q hq => by rw [pk_un (by omega)]; exact hf q (by omega)) (by omega) hP hD hS (lv_sub hl [0, 1, 2, 3, 4, 5, 6, 7, 8] rfl)
      have hl : lv_has ls 10 [(9, .int (nI (0))), (7, .long (lN (0))), (6, .int (nI (sL w a))), (5, .int (nI (sL w b))), (4, .ref (ad (2 * a + 8))), (3, .ref (ad (2 * b + 8))), (0, .ref (ad (2 * i + 8))), (1, .ref (ad (2 * a + 8))), (2, .ref (ad (2 * b + 8)))] := lv_sub hl [0, 1, 2, 3, 4, 5, 6, 7, 8] rfl
      have e0 : pW w i (sW w i) = w := pW_self w i
      exact loop (sL w b) 0 (sW w i) 0 _ _ ls (by omega) (by rw [vM_0]; rfl) (fun _ _ => rfl) (by omega) (by rw [e0]; exact hP) (by rw [e0]; exact hD) hS hl
    · exact absurd (nI_lt c8 (by omega)) c25
  · skip
    have c8 : ¬ (sL (w) a < sL (w) b) := fun h => c8 ((nI_ltI (by omega) (by omega)).mpr h)
    refine lv_aload_n hx hb d_Na_putSum_11 rfl (lv_at hl 1 rfl) ?_
    refine lv_goto (tgt := 16) hx hb d_Na_putSum_12 (by decide) ?_
    refine lv_astore_n (lv' := [(3, .ref (ad (2 * a + 8))), (0, .ref (ad (2 * i + 8))), (1, .ref (ad (2 * a + 8))), (2, .ref (ad (2 * b + 8)))]) hx hb d_Na_putSum_16 rfl hl (by decide) rfl (fun ls hl => ?_)
    refine lv_aload_n hx hb d_Na_putSum_17 rfl (lv_at hl 2 rfl) ?_
    refine nw_gL hx hb hts hown hKW.1 hP (i := a) (by omega) (n := sL (w) a) rfl lf_Na_15 d_Na_putSum_18 ?_
    refine lv_aload_n hx hb d_Na_putSum_21 rfl (lv_at hl 3 rfl) ?_
    refine nw_gL hx hb hts hown hKW.1 hP (i := b) (by omega) (n := sL (w) b) rfl lf_Na_15 d_Na_putSum_22 ?_
    refine lv_icmp_lt (tgt := 32) hx hb d_Na_putSum_25 (by decide) (fun c25 => ?_) (fun c25 => ?_)
    · exact absurd ((nI_ltI (by omega) (by omega)).mp c25) c8
    · skip
      have c25 : ¬ (sL (w) a < sL (w) b) := fun h => c25 ((nI_ltI (by omega) (by omega)).mpr h)
      refine lv_aload_n hx hb d_Na_putSum_28 rfl (lv_at hl 3 rfl) ?_
      refine lv_goto (tgt := 33) hx hb d_Na_putSum_29 (by decide) ?_
      refine lv_astore (lv' := [(4, .ref (ad (2 * b + 8))), (3, .ref (ad (2 * a + 8))), (0, .ref (ad (2 * i + 8))), (1, .ref (ad (2 * a + 8))), (2, .ref (ad (2 * b + 8)))]) hx hb d_Na_putSum_33 hl (by decide) rfl (fun ls hl => ?_)
      refine lv_aload_n hx hb d_Na_putSum_35 rfl (lv_at hl 1 rfl) ?_
      refine nw_gL hx hb hts hown hKW.1 hP (i := a) (by omega) (n := sL (w) a) rfl lf_Na_15 d_Na_putSum_36 ?_
      refine lv_istore (lv' := [(5, .int (nI (sL (w) a))), (4, .ref (ad (2 * b + 8))), (3, .ref (ad (2 * a + 8))), (0, .ref (ad (2 * i + 8))), (1, .ref (ad (2 * a + 8))), (2, .ref (ad (2 * b + 8)))]) hx hb d_Na_putSum_39 hl (by decide) rfl (fun ls hl => ?_)
      refine lv_aload hx hb d_Na_putSum_41 (lv_at hl 1 rfl) ?_
      refine nw_gL hx hb hts hown hKW.1 hP (i := b) (by omega) (n := sL (w) b) rfl lf_Na_15 d_Na_putSum_43 ?_
      refine lv_istore (lv' := [(6, .int (nI (sL (w) b))), (5, .int (nI (sL (w) a))), (4, .ref (ad (2 * b + 8))), (3, .ref (ad (2 * a + 8))), (0, .ref (ad (2 * i + 8))), (1, .ref (ad (2 * a + 8))), (2, .ref (ad (2 * b + 8)))]) hx hb d_Na_putSum_46 hl (by decide) rfl (fun ls hl => ?_)
      refine lv_lconst (v := lN (0)) hx hb d_Na_putSum_48 (by decide) ?_
      refine lv_lstore (lv' := [(7, .long (lN (0))), (6, .int (nI (sL (w) b))), (5, .int (nI (sL (w) a))), (4, .ref (ad (2 * b + 8))), (3, .ref (ad (2 * a + 8))), (0, .ref (ad (2 * i + 8))), (1, .ref (ad (2 * a + 8))), (2, .ref (ad (2 * b + 8)))]) hx hb d_Na_putSum_49 hl (by decide) rfl (fun ls hl => ?_)
      refine lv_iconst (v := nI (0)) hx hb d_Na_putSum_51 (by decide) ?_
      refine lv_istore (lv' := [(9, .int (nI (0))), (7, .long (lN (0))), (6, .int (nI (sL (w) b))), (5, .int (nI (sL (w) a))), (4, .ref (ad (2 * b + 8))), (3, .ref (ad (2 * a + 8))), (0, .ref (ad (2 * i + 8))), (1, .ref (ad (2 * a + 8))), (2, .ref (ad (2 * b + 8)))]) hx hb d_Na_putSum_52 hl (by decide) rfl (fun ls hl => ?_)
      have loop : ∀ (n j : Nat) (f : Nat → Int32) (cy : Nat) (H : Heap) (locs : List Loc) (ls : Array Slot), j + n = sL w a → vN f 0 j + cy * 4294967296 ^ j = vN (sW w a) 0 j + vM (sW w b) (sL w b) j → (∀ q, j ≤ q → f q = sW w i q) → cy ≤ 1 → va_P D clA (NC cI cB cR ad (pW w i f)) H → va_D (AA ad s.heap.size) (NC cI cB cR ad (pW w i f)) → va_S (AA ad s.heap.size) s.heap H locs → lv_has ls 10 [(9, .int (nI (j))), (7, .long (lN (cy))), (6, .int (nI (sL w b))), (5, .int (nI (sL w a))), (4, .ref (ad (2 * b + 8))), (3, .ref (ad (2 * a + 8))), (0, .ref (ad (2 * i + 8))), (1, .ref (ad (2 * a + 8))), (2, .ref (ad (2 * b + 8)))] → W p l e (headSpec (q_Na_putSum :: wA) { frames := 1, cells := 0, slots := 0, locals := 24 }).room s m ([.ref (ad (2 * i + 8)), .ref (ad (2 * a + 8)), .ref (ad (2 * b + 8))] : List Value).toArray below meth c H locs 0 0 (MQ below (va_Qv (fun w1 : St => eqN w w1 i ∧ NV w1 i (v + u)) (BW D cI cB cR ad) (AA ad s.heap.size)) ([.ref (ad (2 * i + 8)), .ref (ad (2 * a + 8)), .ref (ad (2 * b + 8))] : List Value).toArray s 0 0 (AA ad s.heap.size)) (F0 m 54 ls []) := by
        intro n
        induction n with
        | zero =>
          intro j f cy H locs ls hj hinv hf hc hP hD hS hl
          refine lv_iload hx hb d_Na_putSum_54 (lv_at hl 0 rfl) ?_
          refine lv_iload hx hb d_Na_putSum_56 (lv_at hl 3 rfl) ?_
          refine lv_icmp_ge (tgt := 126) hx hb d_Na_putSum_58 (by decide) (fun c58 => ?_) (fun c58 => ?_)
          · skip
            have c58 : sL w a ≤ j := (nI_leI (by omega) (by omega)).mp c58
            have ej : j = sL w a := by omega
            subst ej
            refine lv_aload_n hx hb d_Na_putSum_126 rfl (lv_at hl 6 rfl) ?_
            refine nw_gW hx hb hts hown hKW.1 hP (i := i) (by omega) lf_Na_9 d_Na_putSum_127 ?_
            refine lv_iload hx hb d_Na_putSum_130 (lv_at hl 3 rfl) ?_
            refine lv_lload hx hb d_Na_putSum_132 (lv_at hl 1 rfl) ?_
            refine lv_l2i (v := nI (cy)) hx hb d_Na_putSum_134 (lN_i _) ?_
            refine nw_sW hx hb hKW.1 hP hD hS (i := i) (by omega) (j := sL w a) (by omega) d_Na_putSum_135 (fun H locs hP hD hS => ?_)
            refine lv_aload_n hx hb d_Na_putSum_136 rfl (lv_at hl 6 rfl) ?_
            refine lv_iload hx hb d_Na_putSum_137 (lv_at hl 3 rfl) ?_
            refine lv_iconst (v := nI (1)) hx hb d_Na_putSum_139 (by decide) ?_
            refine nw_iadd (v := nI (sL w a + 1)) hx hb d_Na_putSum_140 (nI_add _ _) ?_
            refine wV_v (As := [.int (nI (sL w a + 1))]) (rest := []) (n := 1) ⟨hx, hb, hml, hown, hts⟩ (c_Na_trim l (pW (pW w i f) i (upd (sW (pW w i f) i) (sL w a) (nI (cy)))) _ (i := i) (n := sL w a + 1) hi (by omega)) (cwV0 1 hts lm_Na_23 im_Na_trim se_Na_trim in_Na kq_Na_trim rfl rfl rfl (by decide +kernel) ⟨Nat.le_of_ble_eq_true rfl, Nat.le_of_ble_eq_true rfl⟩) (recvN hKW.1 hP (i := i) (by omega)) hKW hP hD hS rfl hl.1 rfl (Nat.le_of_ble_eq_true rfl) d_Na_putSum_141 ⟨Nat.zero_le _, Nat.zero_le _⟩ (fun w1 H locs hp hP hD hS => ?_)
            simp only [sW_pW, pW_pW] at hp
            have e2 : vN (upd f (sL w a) (nI cy)) 0 (sL w a + 1) = v + u := by
              rw [vN_suc0, pk_us, vN_out (Or.inr (by omega)), wN_nI, Nat.mod_eq_of_lt (by omega), hinv, vM_all (by omega), hv.2.2, hu.2.2]
            exact W.vret hx hb hr (fun t ht hW => ⟨⟨w1, rfl, ⟨by rw [hp]; exact eqN_tr w i _ _, by rw [hp]; have := NV_tr (w := w) (i := i) (n := sL w a + 1) (f := upd f (sL w a) (nI cy)) (by omega); rw [e2] at this; exact this⟩, BW_of ht hP⟩, hS.F ht⟩) hS.2.2 d_Na_putSum_144
          · exact absurd (nI_le (by omega) (by omega)) c58
        | succ n ih =>
          intro j f cy H locs ls hj hinv hf hc hP hD hS hl
          refine lv_iload hx hb d_Na_putSum_54 (lv_at hl 0 rfl) ?_
          refine lv_iload hx hb d_Na_putSum_56 (lv_at hl 3 rfl) ?_
          refine lv_icmp_ge (tgt := 126) hx hb d_Na_putSum_58 (by decide) (fun c58 => ?_) (fun c58 => ?_)
          · exact absurd c58 (nI_ge (by omega) (by omega))
          · skip
            refine lv_lload hx hb d_Na_putSum_61 (lv_at hl 1 rfl) ?_
            refine lv_aload_n hx hb d_Na_putSum_63 rfl (lv_at hl 5 rfl) ?_
            refine nw_gW hx hb hts hown hKW.1 hP (i := a) (by omega) lf_Na_9 d_Na_putSum_64 ?_
            refine lv_iload hx hb d_Na_putSum_67 (lv_at hl 0 rfl) ?_
            refine nw_lW hx hb hKW.1 hP (i := a) (by omega) (j := j) (by omega) (x := sW w a j) (rdW hf (Nat.le_refl j)) d_Na_putSum_69 ?_
            refine lv_i2l (v := (sW w a j).toInt64) hx hb d_Na_putSum_70 rfl ?_
            refine lv_ldc2 (v := 4294967295) hx hb hown (hA_ hts ll_Na_33) d_Na_putSum_71 ?_
            refine nw_land (v := lN (wN ((sW w a j)))) hx hb d_Na_putSum_74 (lw_low _) ?_
            refine lv_iload hx hb d_Na_putSum_75 (lv_at hl 0 rfl) ?_
            refine lv_iload hx hb d_Na_putSum_77 (lv_at hl 2 rfl) ?_
            refine lv_icmp_ge (tgt := 98) hx hb d_Na_putSum_79 (by decide) (fun c79 => ?_) (fun c79 => ?_)
            · skip
              have c79 : sL w b ≤ j := (nI_leI (by omega) (by omega)).mp c79
              refine lv_lconst (v := lN (0)) hx hb d_Na_putSum_98 (by decide) ?_
              refine nw_ladd (v := lN (wN ((sW w a j)) + 0)) hx hb d_Na_putSum_99 (lN_add _ _) ?_
              refine nw_ladd (v := lN (cy + (wN ((sW w a j)) + 0))) hx hb d_Na_putSum_100 (lN_add _ _) ?_
              have hS1 := wN_lt (sW w a j)
              have hS2 := wN_lt (sW w b j)
              refine lv_lstore (lv' := [(7, .long (lN (cy + (wN ((sW w a j)) + 0)))), (9, .int (nI (j))), (6, .int (nI (sL w b))), (5, .int (nI (sL w a))), (4, .ref (ad (2 * b + 8))), (3, .ref (ad (2 * a + 8))), (0, .ref (ad (2 * i + 8))), (1, .ref (ad (2 * a + 8))), (2, .ref (ad (2 * b + 8)))]) hx hb d_Na_putSum_101 hl (by decide) rfl (fun ls hl => ?_)
              refine lv_aload_n hx hb d_Na_putSum_103 rfl (lv_at hl 6 rfl) ?_
              refine nw_gW hx hb hts hown hKW.1 hP (i := i) (by omega) lf_Na_9 d_Na_putSum_104 ?_
              refine lv_iload hx hb d_Na_putSum_107 (lv_at hl 1 rfl) ?_
              refine lv_lload hx hb d_Na_putSum_109 (lv_at hl 0 rfl) ?_
              refine lv_l2i (v := nI (cy + (wN ((sW w a j)) + 0))) hx hb d_Na_putSum_111 (lN_i _) ?_
              refine nw_sW hx hb hKW.1 hP hD hS (i := i) (by omega) (j := j) (by omega) d_Na_putSum_112 (fun H locs hP hD hS => ?_)
              refine lv_lload hx hb d_Na_putSum_113 (lv_at hl 0 rfl) ?_
              refine lv_bipush (v := nI (32)) hx hb d_Na_putSum_115 (by decide) ?_
              refine lv_lushr (v := lN ((cy + (wN ((sW w a j)) + 0)) / 4294967296)) hx hb d_Na_putSum_117 (lN_shr32 (by omega)) ?_
              refine lv_lstore (lv' := [(7, .long (lN ((cy + (wN ((sW w a j)) + 0)) / 4294967296))), (9, .int (nI (j))), (6, .int (nI (sL w b))), (5, .int (nI (sL w a))), (4, .ref (ad (2 * b + 8))), (3, .ref (ad (2 * a + 8))), (0, .ref (ad (2 * i + 8))), (1, .ref (ad (2 * a + 8))), (2, .ref (ad (2 * b + 8)))]) hx hb d_Na_putSum_118 hl (by decide) rfl (fun ls hl => ?_)
              refine lv_iinc (v := nI (j + 1)) (lv' := [(9, .int (nI (j + 1))), (7, .long (lN ((cy + (wN ((sW w a j)) + 0)) / 4294967296))), (6, .int (nI (sL w b))), (5, .int (nI (sL w a))), (4, .ref (ad (2 * b + 8))), (3, .ref (ad (2 * a + 8))), (0, .ref (ad (2 * i + 8))), (1, .ref (ad (2 * a + 8))), (2, .ref (ad (2 * b + 8)))]) hx hb d_Na_putSum_120 hl (k := 1) rfl (nI_add _ 1) (by decide) rfl (fun ls hl => ?_)
              refine lv_goto (tgt := 54) hx hb d_Na_putSum_123 (by decide) ?_
              rw [sW_pW, pW_pW] at hP hD
              exact ih (j + 1) (upd f j (nI (cy + (wN (sW w a j) + 0)))) ((cy + (wN (sW w a j) + 0)) / 4294967296) H locs ls (by omega) (by rw [ch_add0 hinv, vN_suc0, vM_ge c79, Nat.add_mul]; omega) (fun q hq => by rw [pk_un (by omega)]; exact hf q (by omega)) (by omega) hP hD hS (lv_sub hl [0, 1, 2, 3, 4, 5, 6, 7, 8] rfl)
            · skip
              have c79 : ¬ (sL w b ≤ j) := fun h => c79 ((nI_leI (by omega) (by omega)).mpr h)
              refine lv_aload hx hb d_Na_putSum_82 (lv_at hl 4 rfl) ?_
              refine nw_gW hx hb hts hown hKW.1 hP (i := b) (by omega) lf_Na_9 d_Na_putSum_84 ?_
              refine lv_iload hx hb d_Na_putSum_87 (lv_at hl 0 rfl) ?_
              refine nw_lW hx hb hKW.1 hP (i := b) (by omega) (j := j) (by omega) (x := sW w b j) (rdW hf (Nat.le_refl j)) d_Na_putSum_89 ?_
              refine lv_i2l (v := (sW w b j).toInt64) hx hb d_Na_putSum_90 rfl ?_
              refine lv_ldc2 (v := 4294967295) hx hb hown (hA_ hts ll_Na_33) d_Na_putSum_91 ?_
              refine nw_land (v := lN (wN ((sW w b j)))) hx hb d_Na_putSum_94 (lw_low _) ?_
              refine lv_goto (tgt := 99) hx hb d_Na_putSum_95 (by decide) ?_
              refine nw_ladd (v := lN (wN ((sW w a j)) + (wN ((sW w b j))))) hx hb d_Na_putSum_99 (lN_add _ _) ?_
              refine nw_ladd (v := lN (cy + (wN ((sW w a j)) + (wN ((sW w b j)))))) hx hb d_Na_putSum_100 (lN_add _ _) ?_
              have hS1 := wN_lt (sW w a j)
              have hS2 := wN_lt (sW w b j)
              refine lv_lstore (lv' := [(7, .long (lN (cy + (wN ((sW w a j)) + (wN ((sW w b j))))))), (9, .int (nI (j))), (6, .int (nI (sL w b))), (5, .int (nI (sL w a))), (4, .ref (ad (2 * b + 8))), (3, .ref (ad (2 * a + 8))), (0, .ref (ad (2 * i + 8))), (1, .ref (ad (2 * a + 8))), (2, .ref (ad (2 * b + 8)))]) hx hb d_Na_putSum_101 hl (by decide) rfl (fun ls hl => ?_)
              refine lv_aload_n hx hb d_Na_putSum_103 rfl (lv_at hl 6 rfl) ?_
              refine nw_gW hx hb hts hown hKW.1 hP (i := i) (by omega) lf_Na_9 d_Na_putSum_104 ?_
              refine lv_iload hx hb d_Na_putSum_107 (lv_at hl 1 rfl) ?_
              refine lv_lload hx hb d_Na_putSum_109 (lv_at hl 0 rfl) ?_
              refine lv_l2i (v := nI (cy + (wN ((sW w a j)) + (wN ((sW w b j)))))) hx hb d_Na_putSum_111 (lN_i _) ?_
              refine nw_sW hx hb hKW.1 hP hD hS (i := i) (by omega) (j := j) (by omega) d_Na_putSum_112 (fun H locs hP hD hS => ?_)
              refine lv_lload hx hb d_Na_putSum_113 (lv_at hl 0 rfl) ?_
              refine lv_bipush (v := nI (32)) hx hb d_Na_putSum_115 (by decide) ?_
              refine lv_lushr (v := lN ((cy + (wN ((sW w a j)) + (wN ((sW w b j))))) / 4294967296)) hx hb d_Na_putSum_117 (lN_shr32 (by omega)) ?_
              refine lv_lstore (lv' := [(7, .long (lN ((cy + (wN ((sW w a j)) + (wN ((sW w b j))))) / 4294967296))), (9, .int (nI (j))), (6, .int (nI (sL w b))), (5, .int (nI (sL w a))), (4, .ref (ad (2 * b + 8))), (3, .ref (ad (2 * a + 8))), (0, .ref (ad (2 * i + 8))), (1, .ref (ad (2 * a + 8))), (2, .ref (ad (2 * b + 8)))]) hx hb d_Na_putSum_118 hl (by decide) rfl (fun ls hl => ?_)
              refine lv_iinc (v := nI (j + 1)) (lv' := [(9, .int (nI (j + 1))), (7, .long (lN ((cy + (wN ((sW w a j)) + (wN ((sW w b j))))) / 4294967296))), (6, .int (nI (sL w b))), (5, .int (nI (sL w a))), (4, .ref (ad (2 * b + 8))), (3, .ref (ad (2 * a + 8))), (0, .ref (ad (2 * i + 8))), (1, .ref (ad (2 * a + 8))), (2, .ref (ad (2 * b + 8)))]) hx hb d_Na_putSum_120 hl (k := 1) rfl (nI_add _ 1) (by decide) rfl (fun ls hl => ?_)
              refine lv_goto (tgt := 54) hx hb d_Na_putSum_123 (by decide) ?_
              rw [sW_pW, pW_pW] at hP hD
              exact ih (j + 1) (upd f j (nI (cy + (wN (sW w a j) + wN (sW w b j))))) ((cy + (wN (sW w a j) + wN (sW w b j))) / 4294967296) H locs ls (by omega) (by rw [ch_add0 hinv, vN_suc0, vM_lt (Nat.not_le.mp c79), Nat.add_mul]; omega) (fun q hq => by rw [pk_un (by omega)]; exact hf q (by omega)) (by omega) hP hD hS (lv_sub hl [0, 1, 2, 3, 4, 5, 6, 7, 8] rfl)
      have hl : lv_has ls 10 [(9, .int (nI (0))), (7, .long (lN (0))), (6, .int (nI (sL w b))), (5, .int (nI (sL w a))), (4, .ref (ad (2 * b + 8))), (3, .ref (ad (2 * a + 8))), (0, .ref (ad (2 * i + 8))), (1, .ref (ad (2 * a + 8))), (2, .ref (ad (2 * b + 8)))] := lv_sub hl [0, 1, 2, 3, 4, 5, 6, 7, 8] rfl
      have e0 : pW w i (sW w i) = w := pW_self w i
      exact loop (sL w a) 0 (sW w i) 0 _ _ ls (by omega) (by rw [vM_0]; rfl) (fun _ _ => rfl) (by omega) (by rw [e0]; exact hP) (by rw [e0]; exact hD) hS hl

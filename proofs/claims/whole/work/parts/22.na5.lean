/-! NUMBERS: the contracts of Natural, 5 (rows laid by wip/whole/gen/c_na5.py) -/
set_option maxHeartbeats 4000000 in
set_option maxRecDepth 100000 in
/-- putDifference(a, b) -/
theorem c_Na_putDifference (l : Launch) {D : va_G} {cI cB cR : ClassId} {ad : Nat → Nat} (w : St) (sz : Nat) {i a b v u : Nat} (hi : i < 14) (ha : a < 14) (hb14 : b < 14) (hv : NV w a v) (hu : NV w b u) (huv : u ≤ v) : Met l y_Na_putDifference (q_Na_putDifference :: wA) { frames := 1, cells := 0, slots := 0, locals := 24 } (va_Pc [.ref (ad (2 * i + 8)), .ref (ad (2 * a + 8)), .ref (ad (2 * b + 8))] (PW D cI cB cR ad w sz)) (va_Qv (fun w1 : St => eqN w w1 i ∧ NV w1 i (v - u)) (BW D cI cB cR ad) (AA ad sz)) 0 0 (AA ad sz) := by
  refine Met.ofW (cc := b_Na_putDifference) (maxL := 8) (ret := none) (by decide) rfl ?_
  intro p e s m args below meth c s₁ B hml hv
  obtain ⟨rfl, hsz, hP, hD0, hKW⟩ := hv
  have hx := B.exec
  have hb := B.bytes
  have hr := B.returns
  have hts := atoms_spec (ws := q_Na_putDifference :: wA) B.pre
  have hown : s.vm.findClass R_Na = some m.cls := findClass_of_methodNamed B.named
  have hlocks := B.notSynchronized
  subst hsz
  have hD := NC_AA (sz := s.heap.size) hD0
  have hS : va_S (AA ad s.heap.size) s.heap s.heap [] := va_S.rf
  have hl := lv_entry ([.ref (ad (2 * i + 8)), .ref (ad (2 * a + 8)), .ref (ad (2 * b + 8))]) (n := 8) (Nat.le_of_ble_eq_true rfl)
  rw [lg_entry_eq]
  generalize (lg_sl ([.ref (ad (2 * i + 8)), .ref (ad (2 * a + 8)), .ref (ad (2 * b + 8))]) ++ List.replicate (8 - (lg_sl ([.ref (ad (2 * i + 8)), .ref (ad (2 * a + 8)), .ref (ad (2 * b + 8))])).length) Slot.unset).toArray = ls at hl ⊢
  have hl : lv_has ls 8 [(0, .ref (ad (2 * i + 8))), (1, .ref (ad (2 * a + 8))), (2, .ref (ad (2 * b + 8)))] := hl
  have hla := hv.len
  have hlb := hv.le_len hu huv
  refine lv_aload_n hx hb d_Na_putDifference_0 rfl (lv_at hl 1 rfl) ?_
  refine nw_gL hx hb hts hown hKW.1 hP (i := a) (by omega) (n := sL (w) a) rfl lf_Na_15 d_Na_putDifference_1 ?_
  refine lv_istore_n (lv' := [(3, .int (nI (sL (w) a))), (0, .ref (ad (2 * i + 8))), (1, .ref (ad (2 * a + 8))), (2, .ref (ad (2 * b + 8)))]) hx hb d_Na_putDifference_4 rfl hl (by decide) rfl (fun ls hl => ?_)
  refine lv_aload_n hx hb d_Na_putDifference_5 rfl (lv_at hl 3 rfl) ?_
  refine nw_gL hx hb hts hown hKW.1 hP (i := b) (by omega) (n := sL (w) b) rfl lf_Na_15 d_Na_putDifference_6 ?_
  refine lv_istore (lv' := [(4, .int (nI (sL (w) b))), (3, .int (nI (sL (w) a))), (0, .ref (ad (2 * i + 8))), (1, .ref (ad (2 * a + 8))), (2, .ref (ad (2 * b + 8)))]) hx hb d_Na_putDifference_9 hl (by decide) rfl (fun ls hl => ?_)
  refine lv_lconst (v := lN (0)) hx hb d_Na_putDifference_11 (by decide) ?_
  refine lv_lstore (lv' := [(5, .long (lN (0))), (4, .int (nI (sL (w) b))), (3, .int (nI (sL (w) a))), (0, .ref (ad (2 * i + 8))), (1, .ref (ad (2 * a + 8))), (2, .ref (ad (2 * b + 8)))]) hx hb d_Na_putDifference_12 hl (by decide) rfl (fun ls hl => ?_)
  refine lv_iconst (v := nI (0)) hx hb d_Na_putDifference_14 (by decide) ?_
  refine lv_istore (lv' := [(7, .int (nI (0))), (5, .long (lN (0))), (4, .int (nI (sL (w) b))), (3, .int (nI (sL (w) a))), (0, .ref (ad (2 * i + 8))), (1, .ref (ad (2 * a + 8))), (2, .ref (ad (2 * b + 8)))]) hx hb d_Na_putDifference_15 hl (by decide) rfl (fun ls hl => ?_)
  have loop : ∀ (n j : Nat) (f : Nat → Int32) (o : Int) (H : Heap) (locs : List Loc) (ls : Array Slot), j + n = sL w a → ((vN f 0 j : Nat) : Int) + o * 4294967296 ^ j = ((vN (sW w a) 0 j : Nat) : Int) - ((vM (sW w b) (sL w b) j : Nat) : Int) → (∀ q, j ≤ q → f q = sW w i q) → (o = 0 ∨ o = -1) → va_P D clA (NC cI cB cR ad (pW w i f)) H → va_D (AA ad s.heap.size) (NC cI cB cR ad (pW w i f)) → va_S (AA ad s.heap.size) s.heap H locs → lv_has ls 8 [(7, .int (nI (j))), (5, .long (lZ (o))), (4, .int (nI (sL w b))), (3, .int (nI (sL w a))), (0, .ref (ad (2 * i + 8))), (1, .ref (ad (2 * a + 8))), (2, .ref (ad (2 * b + 8)))] → W p l e (headSpec (q_Na_putDifference :: wA) { frames := 1, cells := 0, slots := 0, locals := 24 }).room s m ([.ref (ad (2 * i + 8)), .ref (ad (2 * a + 8)), .ref (ad (2 * b + 8))] : List Value).toArray below meth c H locs 0 0 (MQ below (va_Qv (fun w1 : St => eqN w w1 i ∧ NV w1 i (v - u)) (BW D cI cB cR ad) (AA ad s.heap.size)) ([.ref (ad (2 * i + 8)), .ref (ad (2 * a + 8)), .ref (ad (2 * b + 8))] : List Value).toArray s 0 0 (AA ad s.heap.size)) (F0 m 17 ls []) := by
    intro n
    induction n with
    | zero =>
      intro j f o H locs ls hj hinv hf ho hP hD hS hl
      refine lv_iload hx hb d_Na_putDifference_17 (lv_at hl 0 rfl) ?_
      refine lv_iload_n hx hb d_Na_putDifference_19 rfl (lv_at hl 3 rfl) ?_
      refine lv_icmp_ge (tgt := 87) hx hb d_Na_putDifference_20 (by decide) (fun c20 => ?_) (fun c20 => ?_)
      · skip
        have c20 : sL w a ≤ j := (nI_leI (by omega) (by omega)).mp c20
        have ej : j = sL w a := by omega
        subst ej
        refine lv_aload_n hx hb d_Na_putDifference_87 rfl (lv_at hl 4 rfl) ?_
        refine lv_iload_n hx hb d_Na_putDifference_88 rfl (lv_at hl 3 rfl) ?_
        refine wV_v (As := [.int (nI (sL w a))]) (rest := []) (n := 1) ⟨hx, hb, hml, hown, hts⟩ (c_Na_trim l (pW w i f) _ (i := i) (n := sL w a) hi (by omega)) (cwV0 1 hts lm_Na_23 im_Na_trim se_Na_trim in_Na kq_Na_trim rfl rfl rfl (by decide +kernel) ⟨Nat.le_of_ble_eq_true rfl, Nat.le_of_ble_eq_true rfl⟩) (recvN hKW.1 hP (i := i) (by omega)) hKW hP hD hS rfl hl.1 rfl (Nat.le_of_ble_eq_true rfl) d_Na_putDifference_89 ⟨Nat.zero_le _, Nat.zero_le _⟩ (fun w1 H locs hp hP hD hS => ?_)
        simp only [sW_pW, pW_pW] at hp
        have e2 : vN f 0 (sL w a) = v - u := by
          have := sb_end ho hinv (by rw [vM_all hlb, hv.2.2, hu.2.2]; exact huv)
          rw [vM_all hlb, hv.2.2, hu.2.2] at this
          exact this
        exact W.vret hx hb hr (fun t ht hW => ⟨⟨w1, rfl, ⟨by rw [hp]; exact eqN_tr w i _ _, by rw [hp]; have := NV_tr (w := w) (i := i) (n := sL w a) (f := f) (by omega); rw [e2] at this; exact this⟩, BW_of ht hP⟩, hS.F ht⟩) hS.2.2 d_Na_putDifference_92
      · exact absurd (nI_le (by omega) (by omega)) c20
    | succ n ih =>
      intro j f o H locs ls hj hinv hf ho hP hD hS hl
      refine lv_iload hx hb d_Na_putDifference_17 (lv_at hl 0 rfl) ?_
      refine lv_iload_n hx hb d_Na_putDifference_19 rfl (lv_at hl 3 rfl) ?_
      refine lv_icmp_ge (tgt := 87) hx hb d_Na_putDifference_20 (by decide) (fun c20 => ?_) (fun c20 => ?_)
      · exact absurd c20 (nI_ge (by omega) (by omega))
      · skip
        refine lv_lload hx hb d_Na_putDifference_23 (lv_at hl 1 rfl) ?_
        refine lv_aload_n hx hb d_Na_putDifference_25 rfl (lv_at hl 5 rfl) ?_
        refine nw_gW hx hb hts hown hKW.1 hP (i := a) (by omega) lf_Na_9 d_Na_putDifference_26 ?_
        refine lv_iload hx hb d_Na_putDifference_29 (lv_at hl 0 rfl) ?_
        refine nw_lW hx hb hKW.1 hP (i := a) (by omega) (j := j) (by omega) (x := sW w a j) (rdW hf (Nat.le_refl j)) d_Na_putDifference_31 ?_
        refine lv_i2l (v := (sW w a j).toInt64) hx hb d_Na_putDifference_32 rfl ?_
        refine lv_ldc2 (v := 4294967295) hx hb hown (hA_ hts ll_Na_33) d_Na_putDifference_33 ?_
        refine nw_land (v := lN (wN ((sW w a j)))) hx hb d_Na_putDifference_36 (lw_low _) ?_
        refine lv_iload hx hb d_Na_putDifference_37 (lv_at hl 0 rfl) ?_
        refine lv_iload hx hb d_Na_putDifference_39 (lv_at hl 2 rfl) ?_
        refine lv_icmp_ge (tgt := 59) hx hb d_Na_putDifference_41 (by decide) (fun c41 => ?_) (fun c41 => ?_)
        · skip
          have c41 : sL w b ≤ j := (nI_leI (by omega) (by omega)).mp c41
          have hS1 := wN_lt (sW w a j)
          have hS2 := wN_lt (sW w b j)
          refine lv_lconst (v := lN (0)) hx hb d_Na_putDifference_59 (by decide) ?_
          refine nw_lsub (v := lZ (((wN (sW w a j) : Nat) : Int) - ((0 : Nat) : Int))) hx hb d_Na_putDifference_60 lZ_pm ?_
          refine nw_ladd (v := lZ (o + (((wN (sW w a j) : Nat) : Int) - ((0 : Nat) : Int)))) hx hb d_Na_putDifference_61 (lZ_add _ _) ?_
          refine lv_lstore (lv' := [(5, .long (lZ (o + (((wN (sW w a j) : Nat) : Int) - ((0 : Nat) : Int))))), (7, .int (nI (j))), (4, .int (nI (sL w b))), (3, .int (nI (sL w a))), (0, .ref (ad (2 * i + 8))), (1, .ref (ad (2 * a + 8))), (2, .ref (ad (2 * b + 8)))]) hx hb d_Na_putDifference_62 hl (by decide) rfl (fun ls hl => ?_)
          refine lv_aload_n hx hb d_Na_putDifference_64 rfl (lv_at hl 4 rfl) ?_
          refine nw_gW hx hb hts hown hKW.1 hP (i := i) (by omega) lf_Na_9 d_Na_putDifference_65 ?_
          refine lv_iload hx hb d_Na_putDifference_68 (lv_at hl 1 rfl) ?_
          refine lv_lload hx hb d_Na_putDifference_70 (lv_at hl 0 rfl) ?_
          refine lv_l2i (v := (lZ (o + (((wN (sW w a j) : Nat) : Int) - ((0 : Nat) : Int)))).toInt32) hx hb d_Na_putDifference_72 rfl ?_
          refine nw_sW hx hb hKW.1 hP hD hS (i := i) (by omega) (j := j) (by omega) d_Na_putDifference_73 (fun H locs hP hD hS => ?_)
          refine lv_lload hx hb d_Na_putDifference_74 (lv_at hl 0 rfl) ?_
          refine lv_bipush (v := nI (32)) hx hb d_Na_putDifference_76 (by decide) ?_
          refine lv_lshr (v := lZ ((o + (((wN (sW w a j) : Nat) : Int) - ((0 : Nat) : Int))) / 4294967296)) hx hb d_Na_putDifference_78 (lZ_shr (by omega) (by omega)) ?_
          refine lv_lstore (lv' := [(5, .long (lZ ((o + (((wN (sW w a j) : Nat) : Int) - ((0 : Nat) : Int))) / 4294967296))), (7, .int (nI (j))), (4, .int (nI (sL w b))), (3, .int (nI (sL w a))), (0, .ref (ad (2 * i + 8))), (1, .ref (ad (2 * a + 8))), (2, .ref (ad (2 * b + 8)))]) hx hb d_Na_putDifference_79 hl (by decide) rfl (fun ls hl => ?_)
          refine lv_iinc (v := nI (j + 1)) (lv' := [(7, .int (nI (j + 1))), (5, .long (lZ ((o + (((wN (sW w a j) : Nat) : Int) - ((0 : Nat) : Int))) / 4294967296))), (4, .int (nI (sL w b))), (3, .int (nI (sL w a))), (0, .ref (ad (2 * i + 8))), (1, .ref (ad (2 * a + 8))), (2, .ref (ad (2 * b + 8)))]) hx hb d_Na_putDifference_81 hl (k := 1) rfl (nI_add _ 1) (by decide) rfl (fun ls hl => ?_)
          refine lv_goto (tgt := 17) hx hb d_Na_putDifference_84 (by decide) ?_
          rw [sW_pW, pW_pW] at hP hD
          exact ih (j + 1) (upd f j (lZ (o + (((wN (sW w a j) : Nat) : Int) - ((0 : Nat) : Int)))).toInt32) ((o + (((wN (sW w a j) : Nat) : Int) - ((0 : Nat) : Int))) / 4294967296) H locs ls (by omega) (sb_step (g := f) (h := f) (m := 0) hinv (sb_lt _ _) (sb_Mge c41)) (fun q hq => by rw [pk_un (by omega)]; exact hf q (by omega)) (by omega) hP hD hS (lv_sub hl [0, 1, 2, 3, 4, 5, 6] rfl)
        · skip
          have c41 : ¬ (sL w b ≤ j) := fun h => c41 ((nI_leI (by omega) (by omega)).mpr h)
          have hS1 := wN_lt (sW w a j)
          have hS2 := wN_lt (sW w b j)
          refine lv_aload_n hx hb d_Na_putDifference_44 rfl (lv_at hl 6 rfl) ?_
          refine nw_gW hx hb hts hown hKW.1 hP (i := b) (by omega) lf_Na_9 d_Na_putDifference_45 ?_
          refine lv_iload hx hb d_Na_putDifference_48 (lv_at hl 0 rfl) ?_
          refine nw_lW hx hb hKW.1 hP (i := b) (by omega) (j := j) (by omega) (x := sW w b j) (rdW hf (Nat.le_refl j)) d_Na_putDifference_50 ?_
          refine lv_i2l (v := (sW w b j).toInt64) hx hb d_Na_putDifference_51 rfl ?_
          refine lv_ldc2 (v := 4294967295) hx hb hown (hA_ hts ll_Na_33) d_Na_putDifference_52 ?_
          refine nw_land (v := lN (wN ((sW w b j)))) hx hb d_Na_putDifference_55 (lw_low _) ?_
          refine lv_goto (tgt := 60) hx hb d_Na_putDifference_56 (by decide) ?_
          refine nw_lsub (v := lZ (((wN (sW w a j) : Nat) : Int) - ((wN (sW w b j) : Nat) : Int))) hx hb d_Na_putDifference_60 lZ_pm ?_
          refine nw_ladd (v := lZ (o + (((wN (sW w a j) : Nat) : Int) - ((wN (sW w b j) : Nat) : Int)))) hx hb d_Na_putDifference_61 (lZ_add _ _) ?_
          refine lv_lstore (lv' := [(5, .long (lZ (o + (((wN (sW w a j) : Nat) : Int) - ((wN (sW w b j) : Nat) : Int))))), (7, .int (nI (j))), (4, .int (nI (sL w b))), (3, .int (nI (sL w a))), (0, .ref (ad (2 * i + 8))), (1, .ref (ad (2 * a + 8))), (2, .ref (ad (2 * b + 8)))]) hx hb d_Na_putDifference_62 hl (by decide) rfl (fun ls hl => ?_)
          refine lv_aload_n hx hb d_Na_putDifference_64 rfl (lv_at hl 4 rfl) ?_
          refine nw_gW hx hb hts hown hKW.1 hP (i := i) (by omega) lf_Na_9 d_Na_putDifference_65 ?_
          refine lv_iload hx hb d_Na_putDifference_68 (lv_at hl 1 rfl) ?_
          refine lv_lload hx hb d_Na_putDifference_70 (lv_at hl 0 rfl) ?_
          refine lv_l2i (v := (lZ (o + (((wN (sW w a j) : Nat) : Int) - ((wN (sW w b j) : Nat) : Int)))).toInt32) hx hb d_Na_putDifference_72 rfl ?_
          refine nw_sW hx hb hKW.1 hP hD hS (i := i) (by omega) (j := j) (by omega) d_Na_putDifference_73 (fun H locs hP hD hS => ?_)
          refine lv_lload hx hb d_Na_putDifference_74 (lv_at hl 0 rfl) ?_
          refine lv_bipush (v := nI (32)) hx hb d_Na_putDifference_76 (by decide) ?_
          refine lv_lshr (v := lZ ((o + (((wN (sW w a j) : Nat) : Int) - ((wN (sW w b j) : Nat) : Int))) / 4294967296)) hx hb d_Na_putDifference_78 (lZ_shr (by omega) (by omega)) ?_
          refine lv_lstore (lv' := [(5, .long (lZ ((o + (((wN (sW w a j) : Nat) : Int) - ((wN (sW w b j) : Nat) : Int))) / 4294967296))), (7, .int (nI (j))), (4, .int (nI (sL w b))), (3, .int (nI (sL w a))), (0, .ref (ad (2 * i + 8))), (1, .ref (ad (2 * a + 8))), (2, .ref (ad (2 * b + 8)))]) hx hb d_Na_putDifference_79 hl (by decide) rfl (fun ls hl => ?_)
          refine lv_iinc (v := nI (j + 1)) (lv' := [(7, .int (nI (j + 1))), (5, .long (lZ ((o + (((wN (sW w a j) : Nat) : Int) - ((wN (sW w b j) : Nat) : Int))) / 4294967296))), (4, .int (nI (sL w b))), (3, .int (nI (sL w a))), (0, .ref (ad (2 * i + 8))), (1, .ref (ad (2 * a + 8))), (2, .ref (ad (2 * b + 8)))]) hx hb d_Na_putDifference_81 hl (k := 1) rfl (nI_add _ 1) (by decide) rfl (fun ls hl => ?_)
          refine lv_goto (tgt := 17) hx hb d_Na_putDifference_84 (by decide) ?_
          rw [sW_pW, pW_pW] at hP hD
          exact ih (j + 1) (upd f j (lZ (o + (((wN (sW w a j) : Nat) : Int) - ((wN (sW w b j) : Nat) : Int)))).toInt32) ((o + (((wN (sW w a j) : Nat) : Int) - ((wN (sW w b j) : Nat) : Int))) / 4294967296) H locs ls (by omega) (sb_step (g := f) (h := f) (m := 0) hinv (sb_lt _ _) (sb_Mlt (Nat.not_le.mp c41))) (fun q hq => by rw [pk_un (by omega)]; exact hf q (by omega)) (by omega) hP hD hS (lv_sub hl [0, 1, 2, 3, 4, 5, 6] rfl)
  have e0 : pW w i (sW w i) = w := pW_self w i
  have hl : lv_has ls 8 [(7, .int (nI (0))), (5, .long (lZ (0))), (4, .int (nI (sL w b))), (3, .int (nI (sL w a))), (0, .ref (ad (2 * i + 8))), (1, .ref (ad (2 * a + 8))), (2, .ref (ad (2 * b + 8)))] := by have := (lv_sub (l' := [(7, .int (nI (0))), (5, .long (lN (0))), (4, .int (nI (sL w b))), (3, .int (nI (sL w a))), (0, .ref (ad (2 * i + 8))), (1, .ref (ad (2 * a + 8))), (2, .ref (ad (2 * b + 8)))]) hl [0, 1, 2, 3, 4, 5, 6] rfl); rw [lZ_0] at this; exact this
  exact loop (sL w a) 0 (sW w i) 0 _ _ ls (by omega) (by rw [vM_0]; rfl) (fun _ _ => rfl) (Or.inl rfl) (by rw [e0]; exact hP) (by rw [e0]; exact hD) hS hl

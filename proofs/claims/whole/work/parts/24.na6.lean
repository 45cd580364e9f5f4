/-! NUMBERS: the contracts of Natural, 6: scale, reduce, takeOne (rows laid by wip/whole/gen/c_na6.py) -/
set_option maxHeartbeats 4000000 in
set_option maxRecDepth 100000 in
/-- scale(factor, more) -/
theorem c_Na_scale (l : Launch) {D : va_G} {cI cB cR : ClassId} {ad : Nat → Nat} (w : St) (sz : Nat) {i v φ μ : Nat} (hi : i < 14) (hv : NV w i v) (hφ : φ < 2 ^ 31) (hμ : μ < 2 ^ 31) (hla : sL w i ≤ 6271) : Met l y_Na_scale (q_Na_scale :: wA) { frames := 1, cells := 0, slots := 0, locals := 24 } (va_Pc [.ref (ad (2 * i + 8)), .int (nI (φ)), .int (nI (μ))] (PW D cI cB cR ad w sz)) (va_Qv (fun w1 : St => eqN w w1 i ∧ NV w1 i (v * φ + μ)) (BW D cI cB cR ad) (AA ad sz)) 0 0 (AA ad sz) := by
  refine Met.ofW (cc := b_Na_scale) (maxL := 6) (ret := none) (by decide) rfl ?_
  intro p e s m args below meth c s₁ B hml hv
  obtain ⟨rfl, hsz, hP, hD0, hKW⟩ := hv
  have hx := B.exec
  have hb := B.bytes
  have hr := B.returns
  have hts := atoms_spec (ws := q_Na_scale :: wA) B.pre
  have hown : s.vm.findClass R_Na = some m.cls := findClass_of_methodNamed B.named
  have hlocks := B.notSynchronized
  subst hsz
  have hD := NC_AA (sz := s.heap.size) hD0
  have hS : va_S (AA ad s.heap.size) s.heap s.heap [] := va_S.rf
  have hl := lv_entry ([.ref (ad (2 * i + 8)), .int (nI (φ)), .int (nI (μ))]) (n := 6) (Nat.le_of_ble_eq_true rfl)
  rw [lg_entry_eq]
  generalize (lg_sl ([.ref (ad (2 * i + 8)), .int (nI (φ)), .int (nI (μ))]) ++ List.replicate (6 - (lg_sl ([.ref (ad (2 * i + 8)), .int (nI (φ)), .int (nI (μ))])).length) Slot.unset).toArray = ls at hl ⊢
  have hl : lv_has ls 6 [(0, .ref (ad (2 * i + 8))), (1, .int (nI (φ))), (2, .int (nI (μ)))] := hl
  refine lv_iload_n hx hb d_Na_scale_0 rfl (lv_at hl 2 rfl) ?_
  refine lv_i2l (v := lN (μ)) hx hb d_Na_scale_1 (nI_l (by omega)) ?_
  refine lv_lstore_n (lv' := [(3, .long (lN (μ))), (0, .ref (ad (2 * i + 8))), (1, .int (nI (φ))), (2, .int (nI (μ)))]) hx hb d_Na_scale_2 rfl hl (by decide) rfl (fun ls hl => ?_)
  refine lv_iconst (v := nI (0)) hx hb d_Na_scale_3 (by decide) ?_
  refine lv_istore (lv' := [(5, .int (nI (0))), (3, .long (lN (μ))), (0, .ref (ad (2 * i + 8))), (1, .int (nI (φ))), (2, .int (nI (μ)))]) hx hb d_Na_scale_4 hl (by decide) rfl (fun ls hl => ?_)
  have loop : ∀ (n j : Nat) (f : Nat → Int32) (cy : Nat) (H : Heap) (locs : List Loc) (ls : Array Slot), j + n = sL w i → vN f 0 j + cy * 4294967296 ^ j = vN (sW w i) 0 j * φ + μ → (∀ q, j ≤ q → f q = sW w i q) → cy < 4294967296 → va_P D clA (NC cI cB cR ad (pW w i f)) H → va_D (AA ad s.heap.size) (NC cI cB cR ad (pW w i f)) → va_S (AA ad s.heap.size) s.heap H locs → lv_has ls 6 [(5, .int (nI (j))), (3, .long (lN (cy))), (0, .ref (ad (2 * i + 8))), (1, .int (nI (φ))), (2, .int (nI (μ)))] → W p l e (headSpec (q_Na_scale :: wA) { frames := 1, cells := 0, slots := 0, locals := 24 }).room s m ([.ref (ad (2 * i + 8)), .int (nI (φ)), .int (nI (μ))] : List Value).toArray below meth c H locs 0 0 (MQ below (va_Qv (fun w1 : St => eqN w w1 i ∧ NV w1 i (v * φ + μ)) (BW D cI cB cR ad) (AA ad s.heap.size)) ([.ref (ad (2 * i + 8)), .int (nI (φ)), .int (nI (μ))] : List Value).toArray s 0 0 (AA ad s.heap.size)) (F0 m 6 ls []) := by
    intro n
    induction n with
    | zero =>
      intro j f cy H locs ls hj hinv hf hc hP hD hS hl
      refine lv_iload hx hb d_Na_scale_6 (lv_at hl 0 rfl) ?_
      refine lv_aload_n hx hb d_Na_scale_8 rfl (lv_at hl 2 rfl) ?_
      refine nw_gL hx hb hts hown hKW.1 hP (i := i) (by omega) (n := sL w i) rfl lf_Na_15 d_Na_scale_9 ?_
      refine lv_icmp_ge (tgt := 53) hx hb d_Na_scale_12 (by decide) (fun c12 => ?_) (fun c12 => ?_)
      · skip
        have c12 : sL w i ≤ j := (nI_leI (by omega) (by omega)).mp c12
        have ej : j = sL w i := by omega
        subst ej
        refine lv_aload_n hx hb d_Na_scale_53 rfl (lv_at hl 2 rfl) ?_
        refine nw_gW hx hb hts hown hKW.1 hP (i := i) (by omega) lf_Na_9 d_Na_scale_54 ?_
        refine lv_aload_n hx hb d_Na_scale_57 rfl (lv_at hl 2 rfl) ?_
        refine nw_gL hx hb hts hown hKW.1 hP (i := i) (by omega) (n := sL w i) rfl lf_Na_15 d_Na_scale_58 ?_
        refine lv_lload_n hx hb d_Na_scale_61 rfl (lv_at hl 1 rfl) ?_
        refine lv_l2i (v := nI (cy)) hx hb d_Na_scale_62 (lN_i _) ?_
        refine nw_sW hx hb hKW.1 hP hD hS (i := i) (by omega) (j := sL w i) (by omega) d_Na_scale_63 (fun H locs hP hD hS => ?_)
        refine lv_aload_n hx hb d_Na_scale_64 rfl (lv_at hl 2 rfl) ?_
        refine lv_aload_n hx hb d_Na_scale_65 rfl (lv_at hl 2 rfl) ?_
        refine nw_gL hx hb hts hown hKW.1 hP (i := i) (by omega) (n := sL w i) rfl lf_Na_15 d_Na_scale_66 ?_
        refine lv_iconst (v := nI (1)) hx hb d_Na_scale_69 (by decide) ?_
        refine nw_iadd (v := nI (sL w i + 1)) hx hb d_Na_scale_70 (nI_add _ _) ?_
        refine wV_v (As := [.int (nI (sL w i + 1))]) (rest := []) (n := 1) ⟨hx, hb, hml, hown, hts⟩ (c_Na_trim l (pW (pW w i f) i (upd (sW (pW w i f) i) (sL w i) (nI (cy)))) _ (i := i) (n := sL w i + 1) hi (by omega)) (cwV0 1 hts lm_Na_23 im_Na_trim se_Na_trim in_Na kq_Na_trim rfl rfl rfl (by decide +kernel) ⟨Nat.le_of_ble_eq_true rfl, Nat.le_of_ble_eq_true rfl⟩) (recvN hKW.1 hP (i := i) (by omega)) hKW hP hD hS rfl hl.1 rfl (Nat.le_of_ble_eq_true rfl) d_Na_scale_71 ⟨Nat.zero_le _, Nat.zero_le _⟩ (fun w1 H locs hp hP hD hS => ?_)
        simp only [sW_pW, pW_pW] at hp
        have e2 : vN (upd f (sL w i) (nI cy)) 0 (sL w i + 1) = v * φ + μ := by rw [vN_suc0, pk_us, vN_out (Or.inr (by omega)), wN_nI, Nat.mod_eq_of_lt hc, hinv, hv.2.2]
        exact W.vret hx hb hr (fun t ht hW => ⟨⟨w1, rfl, ⟨by rw [hp]; exact eqN_tr w i _ _, by rw [hp]; have := NV_tr (w := w) (i := i) (n := sL w i + 1) (f := upd f (sL w i) (nI cy)) (by omega); rw [e2] at this; exact this⟩, BW_of ht hP⟩, hS.F ht⟩) hS.2.2 d_Na_scale_74
      · exact absurd (nI_le (by omega) (by omega)) c12
    | succ n ih =>
      intro j f cy H locs ls hj hinv hf hc hP hD hS hl
      refine lv_iload hx hb d_Na_scale_6 (lv_at hl 0 rfl) ?_
      refine lv_aload_n hx hb d_Na_scale_8 rfl (lv_at hl 2 rfl) ?_
      refine nw_gL hx hb hts hown hKW.1 hP (i := i) (by omega) (n := sL w i) rfl lf_Na_15 d_Na_scale_9 ?_
      refine lv_icmp_ge (tgt := 53) hx hb d_Na_scale_12 (by decide) (fun c12 => ?_) (fun c12 => ?_)
      · exact absurd c12 (nI_ge (by omega) (by omega))
      · skip
        have hx1 := wN_lt (sW w i j)
        have hx2 : wN (sW w i j) * φ ≤ 4294967295 * φ := Nat.mul_le_mul_right _ (by omega)
        refine lv_lload_n hx hb d_Na_scale_15 rfl (lv_at hl 1 rfl) ?_
        refine lv_aload_n hx hb d_Na_scale_16 rfl (lv_at hl 2 rfl) ?_
        refine nw_gW hx hb hts hown hKW.1 hP (i := i) (by omega) lf_Na_9 d_Na_scale_17 ?_
        refine lv_iload hx hb d_Na_scale_20 (lv_at hl 0 rfl) ?_
        refine nw_lW hx hb hKW.1 hP (i := i) (by omega) (j := j) (by omega) (x := sW w i j) (rdW hf (Nat.le_refl j)) d_Na_scale_22 ?_
        refine lv_i2l (v := (sW w i j).toInt64) hx hb d_Na_scale_23 rfl ?_
        refine lv_ldc2 (v := 4294967295) hx hb hown (hA_ hts ll_Na_33) d_Na_scale_24 ?_
        refine nw_land (v := lN (wN ((sW w i j)))) hx hb d_Na_scale_27 (lw_low _) ?_
        refine lv_iload_n hx hb d_Na_scale_28 rfl (lv_at hl 3 rfl) ?_
        refine lv_i2l (v := lN (φ)) hx hb d_Na_scale_29 (nI_l (by omega)) ?_
        refine nw_lmul (v := lN ((wN ((sW w i j))) * φ)) hx hb d_Na_scale_30 (lN_mul _ _) ?_
        refine nw_ladd (v := lN (cy + ((wN ((sW w i j))) * φ))) hx hb d_Na_scale_31 (lN_add _ _) ?_
        refine lv_lstore_n (lv' := [(3, .long (lN (cy + ((wN ((sW w i j))) * φ)))), (5, .int (nI (j))), (0, .ref (ad (2 * i + 8))), (1, .int (nI (φ))), (2, .int (nI (μ)))]) hx hb d_Na_scale_32 rfl hl (by decide) rfl (fun ls hl => ?_)
        refine lv_aload_n hx hb d_Na_scale_33 rfl (lv_at hl 2 rfl) ?_
        refine nw_gW hx hb hts hown hKW.1 hP (i := i) (by omega) lf_Na_9 d_Na_scale_34 ?_
        refine lv_iload hx hb d_Na_scale_37 (lv_at hl 1 rfl) ?_
        refine lv_lload_n hx hb d_Na_scale_39 rfl (lv_at hl 0 rfl) ?_
        refine lv_l2i (v := nI (cy + ((wN ((sW w i j))) * φ))) hx hb d_Na_scale_40 (lN_i _) ?_
        refine nw_sW hx hb hKW.1 hP hD hS (i := i) (by omega) (j := j) (by omega) d_Na_scale_41 (fun H locs hP hD hS => ?_)
        refine lv_lload_n hx hb d_Na_scale_42 rfl (lv_at hl 0 rfl) ?_
        refine lv_bipush (v := nI (32)) hx hb d_Na_scale_43 (by decide) ?_
        refine lv_lushr (v := lN ((cy + ((wN ((sW w i j))) * φ)) / 4294967296)) hx hb d_Na_scale_45 (lN_shr32 (by omega)) ?_
        refine lv_lstore_n (lv' := [(3, .long (lN ((cy + ((wN ((sW w i j))) * φ)) / 4294967296))), (5, .int (nI (j))), (0, .ref (ad (2 * i + 8))), (1, .int (nI (φ))), (2, .int (nI (μ)))]) hx hb d_Na_scale_46 rfl hl (by decide) rfl (fun ls hl => ?_)
        refine lv_iinc (v := nI (j + 1)) (lv' := [(5, .int (nI (j + 1))), (3, .long (lN ((cy + ((wN ((sW w i j))) * φ)) / 4294967296))), (0, .ref (ad (2 * i + 8))), (1, .int (nI (φ))), (2, .int (nI (μ)))]) hx hb d_Na_scale_47 hl (k := 1) rfl (nI_add _ 1) (by decide) rfl (fun ls hl => ?_)
        refine lv_goto (tgt := 6) hx hb d_Na_scale_50 (by decide) ?_
        rw [sW_pW, pW_pW] at hP hD
        exact ih (j + 1) (upd f j (nI (cy + wN (sW w i j) * φ))) ((cy + wN (sW w i j) * φ) / 4294967296) H locs ls (by omega) (by rw [ch_add0 hinv, vN_suc0]; exact sc_step) (fun q hq => by rw [pk_un (by omega)]; exact hf q (by omega)) (by omega) hP hD hS (lv_sub hl [0, 1, 2, 3, 4] rfl)
  have e0 : pW w i (sW w i) = w := pW_self w i
  exact loop (sL w i) 0 (sW w i) μ _ _ ls (by omega) (by show 0 + μ * 4294967296 ^ 0 = 0 * φ + μ; omega) (fun _ _ => rfl) (by omega) (by rw [e0]; exact hP) (by rw [e0]; exact hD) hS (lv_sub hl [0, 1, 2, 3, 4] rfl)
set_option maxHeartbeats 4000000 in
set_option maxRecDepth 100000 in
/-- reduce(divisor) -/
theorem c_Na_reduce (l : Launch) {D : va_G} {cI cB cR : ClassId} {ad : Nat → Nat} (w : St) (sz : Nat) {i v δ : Nat} (hi : i < 14) (hv : NV w i v) (h0 : 0 < δ) (hδ : δ < 2 ^ 31) : Met l y_Na_reduce (q_Na_reduce :: wA) { frames := 1, cells := 0, slots := 0, locals := 24 } (va_Pc [.ref (ad (2 * i + 8)), .int (nI (δ))] (PW D cI cB cR ad w sz)) (va_Qi (fun (r : Int32) (w1 : St) => r = nI (v % δ) ∧ eqN w w1 i ∧ NV w1 i (v / δ)) (BW D cI cB cR ad) (AA ad sz)) 0 0 (AA ad sz) := by
  refine Met.ofW (cc := b_Na_reduce) (maxL := 10) (ret := (some (.int))) (by decide) rfl ?_
  intro p e s m args below meth c s₁ B hml hv
  obtain ⟨rfl, hsz, hP, hD0, hKW⟩ := hv
  have hx := B.exec
  have hb := B.bytes
  have hr := B.returns
  have hts := atoms_spec (ws := q_Na_reduce :: wA) B.pre
  have hown : s.vm.findClass R_Na = some m.cls := findClass_of_methodNamed B.named
  have hlocks := B.notSynchronized
  subst hsz
  have hD := NC_AA (sz := s.heap.size) hD0
  have hS : va_S (AA ad s.heap.size) s.heap s.heap [] := va_S.rf
  have hl := lv_entry ([.ref (ad (2 * i + 8)), .int (nI (δ))]) (n := 10) (Nat.le_of_ble_eq_true rfl)
  rw [lg_entry_eq]
  generalize (lg_sl ([.ref (ad (2 * i + 8)), .int (nI (δ))]) ++ List.replicate (10 - (lg_sl ([.ref (ad (2 * i + 8)), .int (nI (δ))])).length) Slot.unset).toArray = ls at hl ⊢
  have hl : lv_has ls 10 [(0, .ref (ad (2 * i + 8))), (1, .int (nI (δ)))] := hl
  have hla := hv.len
  refine lv_aload_n hx hb d_Na_reduce_0 rfl (lv_at hl 0 rfl) ?_
  refine nw_gW hx hb hts hown hKW.1 hP (i := i) (by omega) lf_Na_9 d_Na_reduce_1 ?_
  refine lv_astore_n (lv' := [(2, .ref (ad (2 * i + 9))), (0, .ref (ad (2 * i + 8))), (1, .int (nI (δ)))]) hx hb d_Na_reduce_4 rfl hl (by decide) rfl (fun ls hl => ?_)
  refine lv_lconst (v := lN (0)) hx hb d_Na_reduce_5 (by decide) ?_
  refine lv_lstore_n (lv' := [(3, .long (lN (0))), (2, .ref (ad (2 * i + 9))), (0, .ref (ad (2 * i + 8))), (1, .int (nI (δ)))]) hx hb d_Na_reduce_6 rfl hl (by decide) rfl (fun ls hl => ?_)
  refine lv_aload_n hx hb d_Na_reduce_7 rfl (lv_at hl 2 rfl) ?_
  refine nw_gL hx hb hts hown hKW.1 hP (i := i) (by omega) (n := sL (w) i) rfl lf_Na_15 d_Na_reduce_8 ?_
  refine lv_iconst (v := nI (1)) hx hb d_Na_reduce_11 (by decide) ?_
  refine nw_isub (v := dn (sL w i)) hx hb d_Na_reduce_12 (dn_sub _) ?_
  refine lv_istore (lv' := [(5, .int (dn (sL w i))), (3, .long (lN (0))), (2, .ref (ad (2 * i + 9))), (0, .ref (ad (2 * i + 8))), (1, .int (nI (δ)))]) hx hb d_Na_reduce_13 hl (by decide) rfl (fun ls hl => ?_)
  have loop : ∀ (k : Nat) (f : Nat → Int32) (r n : Nat) (H : Heap) (locs : List Loc) (ls : Array Slot), k + n = sL w i → vN f k n * δ + r = vN (sW w i) k n → (∀ q, q < k → f q = sW w i q) → r < δ → va_P D clA (NC cI cB cR ad (pW w i f)) H → va_D (AA ad s.heap.size) (NC cI cB cR ad (pW w i f)) → va_S (AA ad s.heap.size) s.heap H locs → lv_has ls 10 [(5, .int (dn k)), (3, .long (lN (r))), (2, .ref (ad (2 * i + 9))), (0, .ref (ad (2 * i + 8))), (1, .int (nI (δ)))] → W p l e (headSpec (q_Na_reduce :: wA) { frames := 1, cells := 0, slots := 0, locals := 24 }).room s m ([.ref (ad (2 * i + 8)), .int (nI (δ))] : List Value).toArray below meth c H locs 0 0 (MQ below (va_Qi (fun (r : Int32) (w1 : St) => r = nI (v % δ) ∧ eqN w w1 i ∧ NV w1 i (v / δ)) (BW D cI cB cR ad) (AA ad s.heap.size)) ([.ref (ad (2 * i + 8)), .int (nI (δ))] : List Value).toArray s 0 0 (AA ad s.heap.size)) (F0 m 15 ls []) := by
    intro k
    induction k with
    | zero =>
      intro f r n H locs ls hj hinv hf hr2 hP hD hS hl
      refine lv_iload hx hb d_Na_reduce_15 (lv_at hl 0 rfl) ?_
      refine lv_if_lt (tgt := 65) hx hb d_Na_reduce_17 (by decide) (fun c17 => ?_) (fun c17 => ?_)
      · skip
        have ej : n = sL w i := by omega
        subst ej
        refine lv_aload_n hx hb d_Na_reduce_65 rfl (lv_at hl 3 rfl) ?_
        refine lv_aload_n hx hb d_Na_reduce_66 rfl (lv_at hl 3 rfl) ?_
        refine nw_gL hx hb hts hown hKW.1 hP (i := i) (by omega) (n := sL w i) rfl lf_Na_15 d_Na_reduce_67 ?_
        refine wV_v (As := [.int (nI (sL w i))]) (rest := []) (n := 1) ⟨hx, hb, hml, hown, hts⟩ (c_Na_trim l (pW w i f) _ (i := i) (n := sL w i) hi (by omega)) (cwV0 1 hts lm_Na_23 im_Na_trim se_Na_trim in_Na kq_Na_trim rfl rfl rfl (by decide +kernel) ⟨Nat.le_of_ble_eq_true rfl, Nat.le_of_ble_eq_true rfl⟩) (recvN hKW.1 hP (i := i) (by omega)) hKW hP hD hS rfl hl.1 rfl (Nat.le_of_ble_eq_true rfl) d_Na_reduce_70 ⟨Nat.zero_le _, Nat.zero_le _⟩ (fun w1 H locs hp hP hD hS => ?_)
        simp only [sW_pW, pW_pW] at hp
        rw [hv.2.2] at hinv
        obtain ⟨e2, e3⟩ := rd_end hinv hr2
        refine lv_lload_n hx hb d_Na_reduce_73 rfl (lv_at hl 1 rfl) ?_
        refine lv_l2i (v := nI (r)) hx hb d_Na_reduce_74 (lN_i _) ?_
        exact W.iret (v := nI (r)) hx hb hr (fun t ht hW => ⟨⟨_, w1, rfl, ⟨by rw [e3], by rw [hp]; exact eqN_tr w i _ _, by rw [hp]; have := NV_tr (w := w) (i := i) (n := sL w i) (f := f) (by omega); rw [e2] at this; exact this⟩, BW_of ht hP⟩, hS.F ht⟩) hS.2.2 d_Na_reduce_75
      · exact absurd dn_0 c17
    | succ k ih =>
      intro f r n H locs ls hj hinv hf hr2 hP hD hS hl
      have hx1 := wN_lt (sW w i k)
      refine lv_iload hx hb d_Na_reduce_15 (lv_at hl 0 rfl) ?_
      refine lv_if_lt (tgt := 65) hx hb d_Na_reduce_17 (by decide) (fun c17 => ?_) (fun c17 => ?_)
      · exact absurd c17 (nI_pos (by omega))
      · skip
        refine lv_lload_n hx hb d_Na_reduce_20 rfl (lv_at hl 1 rfl) ?_
        refine lv_bipush (v := nI (32)) hx hb d_Na_reduce_21 (by decide) ?_
        refine lv_lshl (v := lN (r * 4294967296)) hx hb d_Na_reduce_23 (lN_shl32 _) ?_
        refine lv_aload_n hx hb d_Na_reduce_24 rfl (lv_at hl 2 rfl) ?_
        refine lv_iload hx hb d_Na_reduce_25 (lv_at hl 0 rfl) ?_
        refine nw_lW hx hb hKW.1 hP (i := i) (by omega) (j := k) (by omega) (x := sW w i k) (by rw [sW_pW]; exact hf k (by omega)) d_Na_reduce_27 ?_
        refine lv_i2l (v := (sW w i k).toInt64) hx hb d_Na_reduce_28 rfl ?_
        refine lv_ldc2 (v := 4294967295) hx hb hown (hA_ hts ll_Na_33) d_Na_reduce_29 ?_
        refine nw_land (v := lN (wN ((sW w i k)))) hx hb d_Na_reduce_32 (lw_low _) ?_
        refine nw_lor (v := lN (r * 4294967296 + wN (sW w i k))) hx hb d_Na_reduce_33 (lN_join (by omega) (wN_lt _)) ?_
        refine lv_lstore (lv' := [(6, .long (lN (r * 4294967296 + wN (sW w i k)))), (5, .int (nI (k))), (3, .long (lN (r))), (2, .ref (ad (2 * i + 9))), (0, .ref (ad (2 * i + 8))), (1, .int (nI (δ)))]) hx hb d_Na_reduce_34 hl (by decide) rfl (fun ls hl => ?_)
        refine lv_lload hx hb d_Na_reduce_36 (lv_at hl 0 rfl) ?_
        refine lv_iload_n hx hb d_Na_reduce_38 rfl (lv_at hl 5 rfl) ?_
        refine lv_i2l (v := lN (δ)) hx hb d_Na_reduce_39 (nI_l (by omega)) ?_
        refine nw_ldiv (v := lN ((r * 4294967296 + wN (sW w i k)) / δ)) hx hb d_Na_reduce_40 (lN_ne0 (by omega) (by omega)) (pk_lDiv (by omega) (by omega) (by omega)) ?_
        refine lv_lstore (lv' := [(8, .long (lN ((r * 4294967296 + wN (sW w i k)) / δ))), (6, .long (lN (r * 4294967296 + wN (sW w i k)))), (5, .int (nI (k))), (3, .long (lN (r))), (2, .ref (ad (2 * i + 9))), (0, .ref (ad (2 * i + 8))), (1, .int (nI (δ)))]) hx hb d_Na_reduce_41 hl (by decide) rfl (fun ls hl => ?_)
        refine lv_aload_n hx hb d_Na_reduce_43 rfl (lv_at hl 4 rfl) ?_
        refine lv_iload hx hb d_Na_reduce_44 (lv_at hl 2 rfl) ?_
        refine lv_lload hx hb d_Na_reduce_46 (lv_at hl 0 rfl) ?_
        refine lv_l2i (v := nI ((r * 4294967296 + wN (sW w i k)) / δ)) hx hb d_Na_reduce_48 (lN_i _) ?_
        refine nw_sW hx hb hKW.1 hP hD hS (i := i) (by omega) (j := k) (by omega) d_Na_reduce_49 (fun H locs hP hD hS => ?_)
        refine lv_lload hx hb d_Na_reduce_50 (lv_at hl 1 rfl) ?_
        refine lv_lload hx hb d_Na_reduce_52 (lv_at hl 0 rfl) ?_
        refine lv_iload_n hx hb d_Na_reduce_54 rfl (lv_at hl 6 rfl) ?_
        refine lv_i2l (v := lN (δ)) hx hb d_Na_reduce_55 (nI_l (by omega)) ?_
        refine nw_lmul (v := lN (((r * 4294967296 + wN (sW w i k)) / δ) * δ)) hx hb d_Na_reduce_56 (lN_mul _ _) ?_
        refine nw_lsub (v := lN (r * 4294967296 + wN (sW w i k) - (r * 4294967296 + wN (sW w i k)) / δ * δ)) hx hb d_Na_reduce_57 (lN_sub (Nat.div_mul_le_self _ _)) ?_
        refine lv_lstore_n (lv' := [(3, .long (lN (r * 4294967296 + wN (sW w i k) - (r * 4294967296 + wN (sW w i k)) / δ * δ))), (8, .long (lN ((r * 4294967296 + wN (sW w i k)) / δ))), (6, .long (lN (r * 4294967296 + wN (sW w i k)))), (5, .int (nI (k))), (2, .ref (ad (2 * i + 9))), (0, .ref (ad (2 * i + 8))), (1, .int (nI (δ)))]) hx hb d_Na_reduce_58 rfl hl (by decide) rfl (fun ls hl => ?_)
        refine lv_iinc (v := dn k) (lv' := [(5, .int (dn k)), (3, .long (lN (r * 4294967296 + wN (sW w i k) - (r * 4294967296 + wN (sW w i k)) / δ * δ))), (8, .long (lN ((r * 4294967296 + wN (sW w i k)) / δ))), (6, .long (lN (r * 4294967296 + wN (sW w i k)))), (2, .ref (ad (2 * i + 9))), (0, .ref (ad (2 * i + 8))), (1, .int (nI (δ)))]) hx hb d_Na_reduce_59 hl (k := 3) rfl (dn_dec k) (by decide) rfl (fun ls hl => ?_)
        refine lv_goto (tgt := 15) hx hb d_Na_reduce_62 (by decide) ?_
        rw [sW_pW, pW_pW] at hP hD
        exact ih (upd f k (nI ((r * 4294967296 + wN (sW w i k)) / δ))) (r * 4294967296 + wN (sW w i k) - (r * 4294967296 + wN (sW w i k)) / δ * δ) (n + 1) H locs ls (by omega) (rd_step hinv rfl h0 (rd_share hr2 hx1)) (fun q hq => by rw [pk_un (by omega)]; exact hf q (by omega)) (rd_rest h0) hP hD hS (lv_sub hl [0, 1, 4, 5, 6] rfl)
  have e0 : pW w i (sW w i) = w := pW_self w i
  exact loop (sL w i) (sW w i) 0 0 _ _ ls (by omega) (by show 0 * δ + 0 = 0; omega) (fun _ _ => rfl) h0 (by rw [e0]; exact hP) (by rw [e0]; exact hD) hS (lv_sub hl [0, 1, 2, 3, 4] rfl)
set_option maxHeartbeats 4000000 in
set_option maxRecDepth 100000 in
/-- takeOne() -/
theorem c_Na_takeOne (l : Launch) {D : va_G} {cI cB cR : ClassId} {ad : Nat → Nat} (w : St) (sz : Nat) {i v : Nat} (hi : i < 14) (hv : NV w i v) (h0 : 0 < v) : Met l y_Na_takeOne (q_Na_takeOne :: wA) { frames := 1, cells := 0, slots := 0, locals := 24 } (va_Pc [.ref (ad (2 * i + 8))] (PW D cI cB cR ad w sz)) (va_Qv (fun w1 : St => eqN w w1 i ∧ NV w1 i (v - 1)) (BW D cI cB cR ad) (AA ad sz)) 0 0 (AA ad sz) := by
  refine Met.ofW (cc := b_Na_takeOne) (maxL := 3) (ret := none) (by decide) rfl ?_
  intro p e s m args below meth c s₁ B hml hv
  obtain ⟨rfl, hsz, hP, hD0, hKW⟩ := hv
  have hx := B.exec
  have hb := B.bytes
  have hr := B.returns
  have hts := atoms_spec (ws := q_Na_takeOne :: wA) B.pre
  have hown : s.vm.findClass R_Na = some m.cls := findClass_of_methodNamed B.named
  have hlocks := B.notSynchronized
  subst hsz
  have hD := NC_AA (sz := s.heap.size) hD0
  have hS : va_S (AA ad s.heap.size) s.heap s.heap [] := va_S.rf
  have hl := lv_entry ([.ref (ad (2 * i + 8))]) (n := 3) (Nat.le_of_ble_eq_true rfl)
  rw [lg_entry_eq]
  generalize (lg_sl ([.ref (ad (2 * i + 8))]) ++ List.replicate (3 - (lg_sl ([.ref (ad (2 * i + 8))])).length) Slot.unset).toArray = ls at hl ⊢
  have hl : lv_has ls 3 [(0, .ref (ad (2 * i + 8)))] := hl
  have hla := hv.len
  refine lv_iconst (v := nI (1)) hx hb d_Na_takeOne_0 (by decide) ?_
  refine lv_istore_n (lv' := [(1, .int (nI (1))), (0, .ref (ad (2 * i + 8)))]) hx hb d_Na_takeOne_1 rfl hl (by decide) rfl (fun ls hl => ?_)
  refine lv_iconst (v := nI (0)) hx hb d_Na_takeOne_2 (by decide) ?_
  refine lv_istore_n (lv' := [(2, .int (nI (0))), (1, .int (nI (1))), (0, .ref (ad (2 * i + 8)))]) hx hb d_Na_takeOne_3 rfl hl (by decide) rfl (fun ls hl => ?_)
  have loop : ∀ (n j : Nat) (f : Nat → Int32) (o : Nat) (H : Heap) (locs : List Loc) (ls : Array Slot), j + n = sL w i → vN f 0 j + 1 = vN (sW w i) 0 j + o * 4294967296 ^ j → (∀ q, j ≤ q → f q = sW w i q) → o ≤ 1 → va_P D clA (NC cI cB cR ad (pW w i f)) H → va_D (AA ad s.heap.size) (NC cI cB cR ad (pW w i f)) → va_S (AA ad s.heap.size) s.heap H locs → lv_has ls 3 [(2, .int (nI (j))), (1, .int (nI (o))), (0, .ref (ad (2 * i + 8)))] → W p l e (headSpec (q_Na_takeOne :: wA) { frames := 1, cells := 0, slots := 0, locals := 24 }).room s m ([.ref (ad (2 * i + 8))] : List Value).toArray below meth c H locs 0 0 (MQ below (va_Qv (fun w1 : St => eqN w w1 i ∧ NV w1 i (v - 1)) (BW D cI cB cR ad) (AA ad s.heap.size)) ([.ref (ad (2 * i + 8))] : List Value).toArray s 0 0 (AA ad s.heap.size)) (F0 m 4 ls []) := by
    intro n
    induction n with
    | zero =>
      intro j f o H locs ls hj hinv hf ho hP hD hS hl
      refine lv_iload_n hx hb d_Na_takeOne_4 rfl (lv_at hl 0 rfl) ?_
      refine lv_aload_n hx hb d_Na_takeOne_5 rfl (lv_at hl 2 rfl) ?_
      refine nw_gL hx hb hts hown hKW.1 hP (i := i) (by omega) (n := sL w i) rfl lf_Na_15 d_Na_takeOne_6 ?_
      refine lv_icmp_ge (tgt := 47) hx hb d_Na_takeOne_9 (by decide) (fun c9 => ?_) (fun c9 => ?_)
      · skip
        have c9 : sL w i ≤ j := (nI_leI (by omega) (by omega)).mp c9
        have ej : j = sL w i := by omega
        subst ej
        have hlt := vN_lt f 0 (sL w i)
        rw [hv.2.2] at hinv
        have ho0 : o = 0 := by
          rcases Nat.eq_zero_or_pos o with q | q
          · exact q
          · have h1 : o = 1 := by omega
            rw [h1] at hinv
            omega
        have hinv : vN f 0 (sL w i) + 1 = v := by rw [hinv, ho0]; omega
        refine lv_aload_n hx hb d_Na_takeOne_47 rfl (lv_at hl 2 rfl) ?_
        refine lv_aload_n hx hb d_Na_takeOne_48 rfl (lv_at hl 2 rfl) ?_
        refine nw_gL hx hb hts hown hKW.1 hP (i := i) (by omega) (n := sL w i) rfl lf_Na_15 d_Na_takeOne_49 ?_
        refine wV_v (As := [.int (nI (sL w i))]) (rest := []) (n := 1) ⟨hx, hb, hml, hown, hts⟩ (c_Na_trim l (pW w i f) _ (i := i) (n := sL w i) hi (by omega)) (cwV0 1 hts lm_Na_23 im_Na_trim se_Na_trim in_Na kq_Na_trim rfl rfl rfl (by decide +kernel) ⟨Nat.le_of_ble_eq_true rfl, Nat.le_of_ble_eq_true rfl⟩) (recvN hKW.1 hP (i := i) (by omega)) hKW hP hD hS rfl hl.1 rfl (Nat.le_of_ble_eq_true rfl) d_Na_takeOne_52 ⟨Nat.zero_le _, Nat.zero_le _⟩ (fun w1 H locs hp hP hD hS => ?_)
        simp only [sW_pW, pW_pW] at hp
        exact W.vret hx hb hr (fun t ht hW => ⟨⟨w1, rfl, ⟨by rw [hp]; exact eqN_tr w i _ _, by rw [hp]; have := NV_tr (w := w) (i := i) (n := sL w i) (f := f) (by omega); rw [show vN f 0 (sL w i) = v - 1 by omega] at this; exact this⟩, BW_of ht hP⟩, hS.F ht⟩) hS.2.2 d_Na_takeOne_55
      · exact absurd (nI_le (by omega) (by omega)) c9
    | succ n ih =>
      intro j f o H locs ls hj hinv hf ho hP hD hS hl
      refine lv_iload_n hx hb d_Na_takeOne_4 rfl (lv_at hl 0 rfl) ?_
      refine lv_aload_n hx hb d_Na_takeOne_5 rfl (lv_at hl 2 rfl) ?_
      refine nw_gL hx hb hts hown hKW.1 hP (i := i) (by omega) (n := sL w i) rfl lf_Na_15 d_Na_takeOne_6 ?_
      refine lv_icmp_ge (tgt := 47) hx hb d_Na_takeOne_9 (by decide) (fun c9 => ?_) (fun c9 => ?_)
      · exact absurd c9 (nI_ge (by omega) (by omega))
      · skip
        refine lv_iload_n hx hb d_Na_takeOne_12 rfl (lv_at hl 1 rfl) ?_
        refine lv_if_eq (tgt := 47) hx hb d_Na_takeOne_13 (by decide) (fun c13 => ?_) (fun c13 => ?_)
        · skip
          have c13 : o = 0 := (nI_eq (by omega) (by omega)).mp (by rw [nI_0]; exact c13)
          have hinv : vN f 0 (sL w i) + 1 = v := by
            have := vN_tail (n := sL w i) (by omega) hf (a := 1) (b := 0) (by rw [hinv, c13]; omega)
            rw [this, hv.2.2]; rfl
          refine lv_aload_n hx hb d_Na_takeOne_47 rfl (lv_at hl 2 rfl) ?_
          refine lv_aload_n hx hb d_Na_takeOne_48 rfl (lv_at hl 2 rfl) ?_
          refine nw_gL hx hb hts hown hKW.1 hP (i := i) (by omega) (n := sL w i) rfl lf_Na_15 d_Na_takeOne_49 ?_
          refine wV_v (As := [.int (nI (sL w i))]) (rest := []) (n := 1) ⟨hx, hb, hml, hown, hts⟩ (c_Na_trim l (pW w i f) _ (i := i) (n := sL w i) hi (by omega)) (cwV0 1 hts lm_Na_23 im_Na_trim se_Na_trim in_Na kq_Na_trim rfl rfl rfl (by decide +kernel) ⟨Nat.le_of_ble_eq_true rfl, Nat.le_of_ble_eq_true rfl⟩) (recvN hKW.1 hP (i := i) (by omega)) hKW hP hD hS rfl hl.1 rfl (Nat.le_of_ble_eq_true rfl) d_Na_takeOne_52 ⟨Nat.zero_le _, Nat.zero_le _⟩ (fun w1 H locs hp hP hD hS => ?_)
          simp only [sW_pW, pW_pW] at hp
          exact W.vret hx hb hr (fun t ht hW => ⟨⟨w1, rfl, ⟨by rw [hp]; exact eqN_tr w i _ _, by rw [hp]; have := NV_tr (w := w) (i := i) (n := sL w i) (f := f) (by omega); rw [show vN f 0 (sL w i) = v - 1 by omega] at this; exact this⟩, BW_of ht hP⟩, hS.F ht⟩) hS.2.2 d_Na_takeOne_55
        · skip
          have c13 : ¬ (o = 0) := fun h => c13 (by have := (nI_eq (by omega) (by omega)).mpr h; rwa [nI_0] at this)
          have ho1 : o = 1 := by omega
          subst ho1
          refine lv_aload_n hx hb d_Na_takeOne_16 rfl (lv_at hl 2 rfl) ?_
          refine nw_gW hx hb hts hown hKW.1 hP (i := i) (by omega) lf_Na_9 d_Na_takeOne_17 ?_
          refine lv_iload_n hx hb d_Na_takeOne_20 rfl (lv_at hl 0 rfl) ?_
          refine nw_lW hx hb hKW.1 hP (i := i) (by omega) (j := j) (by omega) (x := sW w i j) (rdW hf (Nat.le_refl j)) d_Na_takeOne_21 ?_
          refine lv_if_ne (tgt := 29) hx hb d_Na_takeOne_22 (by decide) (fun c22 => ?_) (fun c22 => ?_)
          · skip
            refine lv_iconst (v := nI (0)) hx hb d_Na_takeOne_29 (by decide) ?_
            refine lv_istore_n (lv' := [(1, .int (nI (0))), (2, .int (nI (j))), (0, .ref (ad (2 * i + 8)))]) hx hb d_Na_takeOne_30 rfl hl (by decide) rfl (fun ls hl => ?_)
            refine lv_aload_n hx hb d_Na_takeOne_31 rfl (lv_at hl 2 rfl) ?_
            refine nw_gW hx hb hts hown hKW.1 hP (i := i) (by omega) lf_Na_9 d_Na_takeOne_32 ?_
            refine lv_iload_n hx hb d_Na_takeOne_35 rfl (lv_at hl 1 rfl) ?_
            refine lv_dup2_11 hx hb d_Na_takeOne_36 rfl rfl ?_
            refine nw_lW hx hb hKW.1 hP (i := i) (by omega) (j := j) (by omega) (x := sW w i j) (rdW hf (Nat.le_refl j)) d_Na_takeOne_37 ?_
            refine lv_iconst (v := nI (1)) hx hb d_Na_takeOne_38 (by decide) ?_
            refine nw_isub (v := (sW w i j) - (nI (1))) hx hb d_Na_takeOne_39 rfl ?_
            refine nw_sW hx hb hKW.1 hP hD hS (i := i) (by omega) (j := j) (by omega) d_Na_takeOne_40 (fun H locs hP hD hS => ?_)
            refine lv_iinc (v := nI (j + 1)) (lv' := [(2, .int (nI (j + 1))), (1, .int (nI (0))), (0, .ref (ad (2 * i + 8)))]) hx hb d_Na_takeOne_41 hl (k := 1) rfl (nI_add _ 1) (by decide) rfl (fun ls hl => ?_)
            refine lv_goto (tgt := 4) hx hb d_Na_takeOne_44 (by decide) ?_
            rw [sW_pW, pW_pW] at hP hD
            exact ih (j + 1) (upd f j (sW w i j - nI 1)) 0 H locs ls (by omega) (by rw [vN_suc0, pk_us, vN_out (Or.inr (by omega)), vN_suc0]; have h7 := wN_dec c22; generalize wN (sW w i j - nI 1) = z at h7 ⊢; rw [← h7, Nat.add_mul]; omega) (fun q hq => by rw [pk_un (by omega)]; exact hf q (by omega)) (by omega) hP hD hS (lv_sub hl [0, 1, 2] rfl)
          · skip
            refine lv_iconst (v := nI (1)) hx hb d_Na_takeOne_25 (by decide) ?_
            refine lv_goto (tgt := 30) hx hb d_Na_takeOne_26 (by decide) ?_
            refine lv_istore_n (lv' := [(1, .int (nI (1))), (2, .int (nI (j))), (0, .ref (ad (2 * i + 8)))]) hx hb d_Na_takeOne_30 rfl hl (by decide) rfl (fun ls hl => ?_)
            refine lv_aload_n hx hb d_Na_takeOne_31 rfl (lv_at hl 2 rfl) ?_
            refine nw_gW hx hb hts hown hKW.1 hP (i := i) (by omega) lf_Na_9 d_Na_takeOne_32 ?_
            refine lv_iload_n hx hb d_Na_takeOne_35 rfl (lv_at hl 1 rfl) ?_
            refine lv_dup2_11 hx hb d_Na_takeOne_36 rfl rfl ?_
            refine nw_lW hx hb hKW.1 hP (i := i) (by omega) (j := j) (by omega) (x := sW w i j) (rdW hf (Nat.le_refl j)) d_Na_takeOne_37 ?_
            refine lv_iconst (v := nI (1)) hx hb d_Na_takeOne_38 (by decide) ?_
            refine nw_isub (v := (sW w i j) - (nI (1))) hx hb d_Na_takeOne_39 rfl ?_
            refine nw_sW hx hb hKW.1 hP hD hS (i := i) (by omega) (j := j) (by omega) d_Na_takeOne_40 (fun H locs hP hD hS => ?_)
            refine lv_iinc (v := nI (j + 1)) (lv' := [(2, .int (nI (j + 1))), (1, .int (nI (1))), (0, .ref (ad (2 * i + 8)))]) hx hb d_Na_takeOne_41 hl (k := 1) rfl (nI_add _ 1) (by decide) rfl (fun ls hl => ?_)
            refine lv_goto (tgt := 4) hx hb d_Na_takeOne_44 (by decide) ?_
            rw [sW_pW, pW_pW] at hP hD
            exact ih (j + 1) (upd f j (sW w i j - nI 1)) 1 H locs ls (by omega) (by rw [vN_suc0, pk_us, vN_out (Or.inr (by omega)), vN_suc0, c22, wN_dec0, wN_0, Nat.pow_succ]; omega) (fun q hq => by rw [pk_un (by omega)]; exact hf q (by omega)) (by omega) hP hD hS (lv_sub hl [0, 1, 2] rfl)
  have e0 : pW w i (sW w i) = w := pW_self w i
  exact loop (sL w i) 0 (sW w i) 1 _ _ ls (by omega) (by show 0 + 1 = 0 + 1 * 4294967296 ^ 0; omega) (fun _ _ => rfl) (by omega) (by rw [e0]; exact hP) (by rw [e0]; exact hD) hS (lv_sub hl [0, 1, 2] rfl)

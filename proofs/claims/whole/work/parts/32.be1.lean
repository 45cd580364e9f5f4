/-! THE BENCH: the contracts of its word loops, 1 (rows laid by wip/whole/gen/c_be1.py) -/
set_option maxHeartbeats 4000000 in
set_option maxRecDepth 100000 in
/-- addProduct(at, from, count, factor) -/
theorem c_Be_addProduct (l : Launch) {D : va_G} {cI cB cR : ClassId} {ad : Nat → Nat} (w : St) (sz : Nat) {t0 s0 cnt φ : Nat} (h1 : t0 + cnt ≤ 28672) (h2 : s0 + cnt ≤ 28672) (hd : s0 + cnt ≤ t0 ∨ t0 + cnt ≤ s0) (hφ : φ < 4294967296) : Met l y_Be_addProduct (q_Be_addProduct :: wA) { frames := 0, cells := 0, slots := 0, locals := 0 } (va_Pc [.ref (ad 2), .int (nI (t0)), .int (nI (s0)), .int (nI (cnt)), .long (lN (φ))] (PW D cI cB cR ad w sz)) (va_Qi (fun (r : Int32) (w1 : St) => ∃ (f : Nat → Int32) (cy : Nat), w1 = pR w f ∧ r = nI cy ∧ cy < 4294967296 ∧ so f (sR w) t0 cnt ∧ vN f t0 cnt + cy * 4294967296 ^ cnt = vN (sR w) t0 cnt + φ * vN (sR w) s0 cnt) (BW D cI cB cR ad) (AA ad sz)) 0 0 (AA ad sz) := by
  refine Met.ofW (cc := b_Be_addProduct) (maxL := 12) (ret := (some (.int))) (by decide) rfl ?_
  intro p e s m args below meth c s₁ B hml hv
  obtain ⟨rfl, hsz, hP, hD0, hKW⟩ := hv
  have hx := B.exec
  have hb := B.bytes
  have hr := B.returns
  have hts := atoms_spec (ws := q_Be_addProduct :: wA) B.pre
  have hown : s.vm.findClass R_Be = some m.cls := findClass_of_methodNamed B.named
  have hlocks := B.notSynchronized
  subst hsz
  have hD := NC_AA (sz := s.heap.size) hD0
  have hS : va_S (AA ad s.heap.size) s.heap s.heap [] := va_S.rf
  have hl := lv_entry ([.ref (ad 2), .int (nI (t0)), .int (nI (s0)), .int (nI (cnt)), .long (lN (φ))]) (n := 12) (Nat.le_of_ble_eq_true rfl)
  rw [lg_entry_eq]
  generalize (lg_sl ([.ref (ad 2), .int (nI (t0)), .int (nI (s0)), .int (nI (cnt)), .long (lN (φ))]) ++ List.replicate (12 - (lg_sl ([.ref (ad 2), .int (nI (t0)), .int (nI (s0)), .int (nI (cnt)), .long (lN (φ))])).length) Slot.unset).toArray = ls at hl ⊢
  have hl : lv_has ls 12 [(0, .ref (ad 2)), (1, .int (nI (t0))), (2, .int (nI (s0))), (3, .int (nI (cnt))), (4, .long (lN (φ)))] := hl
  refine lv_aload_n hx hb d_Be_addProduct_0 rfl (lv_at hl 0 rfl) ?_
  refine nw_gR hx hb hts hown hKW.1 hP lf_Be_11 d_Be_addProduct_1 ?_
  refine lv_astore (lv' := [(6, .ref (ad 3)), (0, .ref (ad 2)), (1, .int (nI (t0))), (2, .int (nI (s0))), (3, .int (nI (cnt))), (4, .long (lN (φ)))]) hx hb d_Be_addProduct_4 hl (by decide) rfl (fun ls hl => ?_)
  refine lv_iload_n hx hb d_Be_addProduct_6 rfl (lv_at hl 3 rfl) ?_
  refine lv_iload_n hx hb d_Be_addProduct_7 rfl (lv_at hl 4 rfl) ?_
  refine nw_iadd (v := nI (s0 + cnt)) hx hb d_Be_addProduct_8 (nI_add _ _) ?_
  refine lv_istore (lv' := [(7, .int (nI (s0 + cnt))), (6, .ref (ad 3)), (0, .ref (ad 2)), (1, .int (nI (t0))), (2, .int (nI (s0))), (3, .int (nI (cnt))), (4, .long (lN (φ)))]) hx hb d_Be_addProduct_9 hl (by decide) rfl (fun ls hl => ?_)
  refine lv_iload_n hx hb d_Be_addProduct_11 rfl (lv_at hl 3 rfl) ?_
  refine lv_istore (lv' := [(8, .int (nI (t0))), (7, .int (nI (s0 + cnt))), (6, .ref (ad 3)), (0, .ref (ad 2)), (1, .int (nI (t0))), (2, .int (nI (s0))), (3, .int (nI (cnt))), (4, .long (lN (φ)))]) hx hb d_Be_addProduct_12 hl (by decide) rfl (fun ls hl => ?_)
  refine lv_lconst (v := lN (0)) hx hb d_Be_addProduct_14 (by decide) ?_
  refine lv_lstore (lv' := [(9, .long (lN (0))), (8, .int (nI (t0))), (7, .int (nI (s0 + cnt))), (6, .ref (ad 3)), (0, .ref (ad 2)), (1, .int (nI (t0))), (2, .int (nI (s0))), (3, .int (nI (cnt))), (4, .long (lN (φ)))]) hx hb d_Be_addProduct_15 hl (by decide) rfl (fun ls hl => ?_)
  refine lv_iload_n hx hb d_Be_addProduct_17 rfl (lv_at hl 6 rfl) ?_
  refine lv_istore (lv' := [(11, .int (nI (s0))), (9, .long (lN (0))), (8, .int (nI (t0))), (7, .int (nI (s0 + cnt))), (6, .ref (ad 3)), (0, .ref (ad 2)), (1, .int (nI (t0))), (2, .int (nI (s0))), (3, .int (nI (cnt))), (4, .long (lN (φ)))]) hx hb d_Be_addProduct_18 hl (by decide) rfl (fun ls hl => ?_)
  have loop : ∀ (n j : Nat) (f : Nat → Int32) (cy : Nat) (H : Heap) (locs : List Loc) (ls : Array Slot), j + n = cnt → vN f t0 j + cy * 4294967296 ^ j = vN (sR w) t0 j + φ * vN (sR w) s0 j → so f (sR w) t0 j → cy < 4294967296 → va_P D clA (NC cI cB cR ad (pR w f)) H → va_D (AA ad s.heap.size) (NC cI cB cR ad (pR w f)) → va_S (AA ad s.heap.size) s.heap H locs → lv_has ls 12 [(11, .int (nI (s0 + j))), (9, .long (lN (cy))), (8, .int (nI (t0 + j))), (7, .int (nI (s0 + cnt))), (6, .ref (ad 3)), (0, .ref (ad 2)), (1, .int (nI (t0))), (2, .int (nI (s0))), (3, .int (nI (cnt))), (4, .long (lN (φ)))] → W p l e (headSpec (q_Be_addProduct :: wA) { frames := 0, cells := 0, slots := 0, locals := 0 }).room s m ([.ref (ad 2), .int (nI (t0)), .int (nI (s0)), .int (nI (cnt)), .long (lN (φ))] : List Value).toArray below meth c H locs 0 0 (MQ below (va_Qi (fun (r : Int32) (w1 : St) => ∃ (f : Nat → Int32) (cy : Nat), w1 = pR w f ∧ r = nI cy ∧ cy < 4294967296 ∧ so f (sR w) t0 cnt ∧ vN f t0 cnt + cy * 4294967296 ^ cnt = vN (sR w) t0 cnt + φ * vN (sR w) s0 cnt) (BW D cI cB cR ad) (AA ad s.heap.size)) ([.ref (ad 2), .int (nI (t0)), .int (nI (s0)), .int (nI (cnt)), .long (lN (φ))] : List Value).toArray s 0 0 (AA ad s.heap.size)) (F0 m 20 ls []) := by
    intro n
    induction n with
    | zero =>
      intro j f cy H locs ls hj hinv hf hc hP hD hS hl
      refine lv_iload hx hb d_Be_addProduct_20 (lv_at hl 0 rfl) ?_
      refine lv_iload hx hb d_Be_addProduct_22 (lv_at hl 3 rfl) ?_
      refine lv_icmp_ge (tgt := 80) hx hb d_Be_addProduct_24 (by decide) (fun c24 => ?_) (fun c24 => ?_)
      · skip
        have c24 : s0 + cnt ≤ s0 + j := (nI_leI (by omega) (by omega)).mp c24
        have ej : j = cnt := by omega
        subst ej
        refine lv_lload hx hb d_Be_addProduct_80 (lv_at hl 1 rfl) ?_
        refine lv_l2i (v := nI (cy)) hx hb d_Be_addProduct_82 (lN_i _) ?_
        exact W.iret (v := nI (cy)) hx hb hr (fun t ht hW => ⟨⟨_, pR w f, rfl, ⟨f, cy, rfl, rfl, hc, hf, hinv⟩, BW_of ht hP⟩, hS.F ht⟩) hS.2.2 d_Be_addProduct_83
      · exact absurd (nI_le (by omega) (by omega)) c24
    | succ n ih =>
      intro j f cy H locs ls hj hinv hf hc hP hD hS hl
      have hm := pr_bound (wN_lt (sR w (s0 + j))) hφ
      have hy := wN_lt (sR w (t0 + j))
      refine lv_iload hx hb d_Be_addProduct_20 (lv_at hl 0 rfl) ?_
      refine lv_iload hx hb d_Be_addProduct_22 (lv_at hl 3 rfl) ?_
      refine lv_icmp_ge (tgt := 80) hx hb d_Be_addProduct_24 (by decide) (fun c24 => ?_) (fun c24 => ?_)
      · exact absurd c24 (nI_ge (by omega) (by omega))
      · skip
        refine lv_lload hx hb d_Be_addProduct_27 (lv_at hl 1 rfl) ?_
        refine lv_aload hx hb d_Be_addProduct_29 (lv_at hl 4 rfl) ?_
        refine lv_iload hx hb d_Be_addProduct_31 (lv_at hl 0 rfl) ?_
        refine nw_lR hx hb hKW.1 hP (j := s0 + j) (by omega) (x := sR w (s0 + j)) (hf _ (by omega)) d_Be_addProduct_33 ?_
        refine lv_i2l (v := (sR w (s0 + j)).toInt64) hx hb d_Be_addProduct_34 rfl ?_
        refine lv_ldc2 (v := 4294967295) hx hb hown (hA_ hts ll_Be_99) d_Be_addProduct_35 ?_
        refine nw_land (v := lN (wN ((sR w (s0 + j))))) hx hb d_Be_addProduct_38 (lw_low _) ?_
        refine lv_lload hx hb d_Be_addProduct_39 (lv_at hl 9 rfl) ?_
        refine nw_lmul (v := lN ((wN ((sR w (s0 + j)))) * φ)) hx hb d_Be_addProduct_41 (lN_mul _ _) ?_
        refine lv_aload hx hb d_Be_addProduct_42 (lv_at hl 4 rfl) ?_
        refine lv_iload hx hb d_Be_addProduct_44 (lv_at hl 2 rfl) ?_
        refine nw_lR hx hb hKW.1 hP (j := t0 + j) (by omega) (x := sR w (t0 + j)) (hf _ (by omega)) d_Be_addProduct_46 ?_
        refine lv_i2l (v := (sR w (t0 + j)).toInt64) hx hb d_Be_addProduct_47 rfl ?_
        refine lv_ldc2 (v := 4294967295) hx hb hown (hA_ hts ll_Be_99) d_Be_addProduct_48 ?_
        refine nw_land (v := lN (wN ((sR w (t0 + j))))) hx hb d_Be_addProduct_51 (lw_low _) ?_
        refine nw_ladd (v := lN ((wN ((sR w (s0 + j)))) * φ + (wN ((sR w (t0 + j)))))) hx hb d_Be_addProduct_52 (lN_add _ _) ?_
        refine nw_ladd (v := lN (cy + ((wN ((sR w (s0 + j)))) * φ + (wN ((sR w (t0 + j))))))) hx hb d_Be_addProduct_53 (lN_add _ _) ?_
        refine lv_lstore (lv' := [(9, .long (lN (cy + ((wN ((sR w (s0 + j)))) * φ + (wN ((sR w (t0 + j)))))))), (11, .int (nI (s0 + j))), (8, .int (nI (t0 + j))), (7, .int (nI (s0 + cnt))), (6, .ref (ad 3)), (0, .ref (ad 2)), (1, .int (nI (t0))), (2, .int (nI (s0))), (3, .int (nI (cnt))), (4, .long (lN (φ)))]) hx hb d_Be_addProduct_54 hl (by decide) rfl (fun ls hl => ?_)
        refine lv_aload hx hb d_Be_addProduct_56 (lv_at hl 4 rfl) ?_
        refine lv_iload hx hb d_Be_addProduct_58 (lv_at hl 2 rfl) ?_
        refine lv_lload hx hb d_Be_addProduct_60 (lv_at hl 0 rfl) ?_
        refine lv_l2i (v := nI (cy + ((wN ((sR w (s0 + j)))) * φ + (wN ((sR w (t0 + j))))))) hx hb d_Be_addProduct_62 (lN_i _) ?_
        refine nw_sR hx hb hKW.1 hP hD hS (j := t0 + j) (by omega) d_Be_addProduct_63 (fun H locs hP hD hS => ?_)
        refine lv_lload hx hb d_Be_addProduct_64 (lv_at hl 0 rfl) ?_
        refine lv_bipush (v := nI (32)) hx hb d_Be_addProduct_66 (by decide) ?_
        refine lv_lushr (v := lN ((cy + ((wN ((sR w (s0 + j)))) * φ + (wN ((sR w (t0 + j)))))) / 4294967296)) hx hb d_Be_addProduct_68 (lN_shr32 (by omega)) ?_
        refine lv_lstore (lv' := [(9, .long (lN ((cy + ((wN ((sR w (s0 + j)))) * φ + (wN ((sR w (t0 + j)))))) / 4294967296))), (11, .int (nI (s0 + j))), (8, .int (nI (t0 + j))), (7, .int (nI (s0 + cnt))), (6, .ref (ad 3)), (0, .ref (ad 2)), (1, .int (nI (t0))), (2, .int (nI (s0))), (3, .int (nI (cnt))), (4, .long (lN (φ)))]) hx hb d_Be_addProduct_69 hl (by decide) rfl (fun ls hl => ?_)
        refine lv_iinc (v := nI (t0 + j + 1)) (lv' := [(8, .int (nI (t0 + j + 1))), (9, .long (lN ((cy + ((wN ((sR w (s0 + j)))) * φ + (wN ((sR w (t0 + j)))))) / 4294967296))), (11, .int (nI (s0 + j))), (7, .int (nI (s0 + cnt))), (6, .ref (ad 3)), (0, .ref (ad 2)), (1, .int (nI (t0))), (2, .int (nI (s0))), (3, .int (nI (cnt))), (4, .long (lN (φ)))]) hx hb d_Be_addProduct_71 hl (k := 2) rfl (nI_add _ 1) (by decide) rfl (fun ls hl => ?_)
        refine lv_iinc (v := nI (s0 + j + 1)) (lv' := [(11, .int (nI (s0 + j + 1))), (8, .int (nI (t0 + j + 1))), (9, .long (lN ((cy + ((wN ((sR w (s0 + j)))) * φ + (wN ((sR w (t0 + j)))))) / 4294967296))), (7, .int (nI (s0 + cnt))), (6, .ref (ad 3)), (0, .ref (ad 2)), (1, .int (nI (t0))), (2, .int (nI (s0))), (3, .int (nI (cnt))), (4, .long (lN (φ)))]) hx hb d_Be_addProduct_74 hl (k := 2) rfl (nI_add _ 1) (by decide) rfl (fun ls hl => ?_)
        refine lv_goto (tgt := 20) hx hb d_Be_addProduct_77 (by decide) ?_
        exact ih (j + 1) (upd f (t0 + j) (nI (cy + (wN (sR w (s0 + j)) * φ + wN (sR w (t0 + j)))))) ((cy + (wN (sR w (s0 + j)) * φ + wN (sR w (t0 + j)))) / 4294967296) H locs ls (by omega) (ap_step hinv) (so_upd hf) (by omega) hP hD hS (lv_sub hl [0, 2, 1, 3, 4, 5, 6, 7, 8, 9] rfl)
  exact loop cnt 0 (sR w) 0 _ _ ls (by omega) (by show 0 + 0 * 4294967296 ^ 0 = 0 + φ * 0; omega) (so_refl _ _ _) (by omega) hP hD hS (lv_sub hl [0, 1, 2, 3, 4, 5, 6, 7, 8, 9] rfl)
set_option maxHeartbeats 4000000 in
set_option maxRecDepth 100000 in
/-- takeProduct(at, from, count, factor) -/
theorem c_Be_takeProduct (l : Launch) {D : va_G} {cI cB cR : ClassId} {ad : Nat → Nat} (w : St) (sz : Nat) {t0 s0 cnt φ : Nat} (h1 : t0 + cnt ≤ 28672) (h2 : s0 + cnt ≤ 28672) (hd : s0 + cnt ≤ t0 ∨ t0 + cnt ≤ s0) (hφ : φ < 4294967296) : Met l y_Be_takeProduct (q_Be_takeProduct :: wA) { frames := 0, cells := 0, slots := 0, locals := 0 } (va_Pc [.ref (ad 2), .int (nI (t0)), .int (nI (s0)), .int (nI (cnt)), .long (lN (φ))] (PW D cI cB cR ad w sz)) (va_Ql (fun (r : Int64) (w1 : St) => ∃ (f : Nat → Int32) (o : Nat), w1 = pR w f ∧ r = lN o ∧ o < 4294967296 ∧ so f (sR w) t0 cnt ∧ vN f t0 cnt + φ * vN (sR w) s0 cnt = vN (sR w) t0 cnt + o * 4294967296 ^ cnt) (BW D cI cB cR ad) (AA ad sz)) 0 0 (AA ad sz) := by
  refine Met.ofW (cc := b_Be_takeProduct) (maxL := 14) (ret := (some (.long))) (by decide) rfl ?_
  intro p e s m args below meth c s₁ B hml hv
  obtain ⟨rfl, hsz, hP, hD0, hKW⟩ := hv
  have hx := B.exec
  have hb := B.bytes
  have hr := B.returns
  have hts := atoms_spec (ws := q_Be_takeProduct :: wA) B.pre
  have hown : s.vm.findClass R_Be = some m.cls := findClass_of_methodNamed B.named
  have hlocks := B.notSynchronized
  subst hsz
  have hD := NC_AA (sz := s.heap.size) hD0
  have hS : va_S (AA ad s.heap.size) s.heap s.heap [] := va_S.rf
  have hl := lv_entry ([.ref (ad 2), .int (nI (t0)), .int (nI (s0)), .int (nI (cnt)), .long (lN (φ))]) (n := 14) (Nat.le_of_ble_eq_true rfl)
  rw [lg_entry_eq]
  generalize (lg_sl ([.ref (ad 2), .int (nI (t0)), .int (nI (s0)), .int (nI (cnt)), .long (lN (φ))]) ++ List.replicate (14 - (lg_sl ([.ref (ad 2), .int (nI (t0)), .int (nI (s0)), .int (nI (cnt)), .long (lN (φ))])).length) Slot.unset).toArray = ls at hl ⊢
  have hl : lv_has ls 14 [(0, .ref (ad 2)), (1, .int (nI (t0))), (2, .int (nI (s0))), (3, .int (nI (cnt))), (4, .long (lN (φ)))] := hl
  refine lv_aload_n hx hb d_Be_takeProduct_0 rfl (lv_at hl 0 rfl) ?_
  refine nw_gR hx hb hts hown hKW.1 hP lf_Be_11 d_Be_takeProduct_1 ?_
  refine lv_astore (lv' := [(6, .ref (ad 3)), (0, .ref (ad 2)), (1, .int (nI (t0))), (2, .int (nI (s0))), (3, .int (nI (cnt))), (4, .long (lN (φ)))]) hx hb d_Be_takeProduct_4 hl (by decide) rfl (fun ls hl => ?_)
  refine lv_iload_n hx hb d_Be_takeProduct_6 rfl (lv_at hl 3 rfl) ?_
  refine lv_iload_n hx hb d_Be_takeProduct_7 rfl (lv_at hl 4 rfl) ?_
  refine nw_iadd (v := nI (s0 + cnt)) hx hb d_Be_takeProduct_8 (nI_add _ _) ?_
  refine lv_istore (lv' := [(7, .int (nI (s0 + cnt))), (6, .ref (ad 3)), (0, .ref (ad 2)), (1, .int (nI (t0))), (2, .int (nI (s0))), (3, .int (nI (cnt))), (4, .long (lN (φ)))]) hx hb d_Be_takeProduct_9 hl (by decide) rfl (fun ls hl => ?_)
  refine lv_iload_n hx hb d_Be_takeProduct_11 rfl (lv_at hl 3 rfl) ?_
  refine lv_istore (lv' := [(8, .int (nI (t0))), (7, .int (nI (s0 + cnt))), (6, .ref (ad 3)), (0, .ref (ad 2)), (1, .int (nI (t0))), (2, .int (nI (s0))), (3, .int (nI (cnt))), (4, .long (lN (φ)))]) hx hb d_Be_takeProduct_12 hl (by decide) rfl (fun ls hl => ?_)
  refine lv_lconst (v := lN (0)) hx hb d_Be_takeProduct_14 (by decide) ?_
  refine lv_lstore (lv' := [(9, .long (lN (0))), (8, .int (nI (t0))), (7, .int (nI (s0 + cnt))), (6, .ref (ad 3)), (0, .ref (ad 2)), (1, .int (nI (t0))), (2, .int (nI (s0))), (3, .int (nI (cnt))), (4, .long (lN (φ)))]) hx hb d_Be_takeProduct_15 hl (by decide) rfl (fun ls hl => ?_)
  refine lv_iload_n hx hb d_Be_takeProduct_17 rfl (lv_at hl 6 rfl) ?_
  refine lv_istore (lv' := [(11, .int (nI (s0))), (9, .long (lN (0))), (8, .int (nI (t0))), (7, .int (nI (s0 + cnt))), (6, .ref (ad 3)), (0, .ref (ad 2)), (1, .int (nI (t0))), (2, .int (nI (s0))), (3, .int (nI (cnt))), (4, .long (lN (φ)))]) hx hb d_Be_takeProduct_18 hl (by decide) rfl (fun ls hl => ?_)
  have loop : ∀ (n j : Nat) (f : Nat → Int32) (o : Nat) (H : Heap) (locs : List Loc) (ls : Array Slot), j + n = cnt → vN f t0 j + φ * vN (sR w) s0 j = vN (sR w) t0 j + o * 4294967296 ^ j → so f (sR w) t0 j → o < 4294967296 → va_P D clA (NC cI cB cR ad (pR w f)) H → va_D (AA ad s.heap.size) (NC cI cB cR ad (pR w f)) → va_S (AA ad s.heap.size) s.heap H locs → lv_has ls 14 [(11, .int (nI (s0 + j))), (9, .long (lN (o))), (8, .int (nI (t0 + j))), (7, .int (nI (s0 + cnt))), (6, .ref (ad 3)), (0, .ref (ad 2)), (1, .int (nI (t0))), (2, .int (nI (s0))), (3, .int (nI (cnt))), (4, .long (lN (φ)))] → W p l e (headSpec (q_Be_takeProduct :: wA) { frames := 0, cells := 0, slots := 0, locals := 0 }).room s m ([.ref (ad 2), .int (nI (t0)), .int (nI (s0)), .int (nI (cnt)), .long (lN (φ))] : List Value).toArray below meth c H locs 0 0 (MQ below (va_Ql (fun (r : Int64) (w1 : St) => ∃ (f : Nat → Int32) (o : Nat), w1 = pR w f ∧ r = lN o ∧ o < 4294967296 ∧ so f (sR w) t0 cnt ∧ vN f t0 cnt + φ * vN (sR w) s0 cnt = vN (sR w) t0 cnt + o * 4294967296 ^ cnt) (BW D cI cB cR ad) (AA ad s.heap.size)) ([.ref (ad 2), .int (nI (t0)), .int (nI (s0)), .int (nI (cnt)), .long (lN (φ))] : List Value).toArray s 0 0 (AA ad s.heap.size)) (F0 m 20 ls []) := by
    intro n
    induction n with
    | zero =>
      intro j f o H locs ls hj hinv hf hc hP hD hS hl
      refine lv_iload hx hb d_Be_takeProduct_20 (lv_at hl 0 rfl) ?_
      refine lv_iload hx hb d_Be_takeProduct_22 (lv_at hl 3 rfl) ?_
      refine lv_icmp_ge (tgt := 94) hx hb d_Be_takeProduct_24 (by decide) (fun c24 => ?_) (fun c24 => ?_)
      · skip
        have c24 : s0 + cnt ≤ s0 + j := (nI_leI (by omega) (by omega)).mp c24
        have ej : j = cnt := by omega
        subst ej
        refine lv_lload hx hb d_Be_takeProduct_94 (lv_at hl 1 rfl) ?_
        exact W.lret (v := lN (o)) hx hb hr (fun t ht hW => ⟨⟨_, pR w f, rfl, ⟨f, o, rfl, rfl, hc, hf, hinv⟩, BW_of ht hP⟩, hS.F ht⟩) hS.2.2 d_Be_takeProduct_96
      · exact absurd (nI_le (by omega) (by omega)) c24
    | succ n ih =>
      intro j f o H locs ls hj hinv hf hc hP hD hS hl
      have hm := pr_bound (wN_lt (sR w (s0 + j))) hφ
      have hy := wN_lt (sR w (t0 + j))
      refine lv_iload hx hb d_Be_takeProduct_20 (lv_at hl 0 rfl) ?_
      refine lv_iload hx hb d_Be_takeProduct_22 (lv_at hl 3 rfl) ?_
      refine lv_icmp_ge (tgt := 94) hx hb d_Be_takeProduct_24 (by decide) (fun c24 => ?_) (fun c24 => ?_)
      · exact absurd c24 (nI_ge (by omega) (by omega))
      · skip
        refine lv_lload hx hb d_Be_takeProduct_27 (lv_at hl 1 rfl) ?_
        refine lv_aload hx hb d_Be_takeProduct_29 (lv_at hl 4 rfl) ?_
        refine lv_iload hx hb d_Be_takeProduct_31 (lv_at hl 0 rfl) ?_
        refine nw_lR hx hb hKW.1 hP (j := s0 + j) (by omega) (x := sR w (s0 + j)) (hf _ (by omega)) d_Be_takeProduct_33 ?_
        refine lv_i2l (v := (sR w (s0 + j)).toInt64) hx hb d_Be_takeProduct_34 rfl ?_
        refine lv_ldc2 (v := 4294967295) hx hb hown (hA_ hts ll_Be_99) d_Be_takeProduct_35 ?_
        refine nw_land (v := lN (wN ((sR w (s0 + j))))) hx hb d_Be_takeProduct_38 (lw_low _) ?_
        refine lv_lload hx hb d_Be_takeProduct_39 (lv_at hl 9 rfl) ?_
        refine nw_lmul (v := lN ((wN ((sR w (s0 + j)))) * φ)) hx hb d_Be_takeProduct_41 (lN_mul _ _) ?_
        refine nw_ladd (v := lN (o + ((wN ((sR w (s0 + j)))) * φ))) hx hb d_Be_takeProduct_42 (lN_add _ _) ?_
        refine lv_lstore (lv' := [(9, .long (lN (o + ((wN ((sR w (s0 + j)))) * φ)))), (11, .int (nI (s0 + j))), (8, .int (nI (t0 + j))), (7, .int (nI (s0 + cnt))), (6, .ref (ad 3)), (0, .ref (ad 2)), (1, .int (nI (t0))), (2, .int (nI (s0))), (3, .int (nI (cnt))), (4, .long (lN (φ)))]) hx hb d_Be_takeProduct_43 hl (by decide) rfl (fun ls hl => ?_)
        refine lv_aload hx hb d_Be_takeProduct_45 (lv_at hl 4 rfl) ?_
        refine lv_iload hx hb d_Be_takeProduct_47 (lv_at hl 2 rfl) ?_
        refine nw_lR hx hb hKW.1 hP (j := t0 + j) (by omega) (x := sR w (t0 + j)) (hf _ (by omega)) d_Be_takeProduct_49 ?_
        refine lv_i2l (v := (sR w (t0 + j)).toInt64) hx hb d_Be_takeProduct_50 rfl ?_
        refine lv_ldc2 (v := 4294967295) hx hb hown (hA_ hts ll_Be_99) d_Be_takeProduct_51 ?_
        refine nw_land (v := lN (wN ((sR w (t0 + j))))) hx hb d_Be_takeProduct_54 (lw_low _) ?_
        refine lv_lload hx hb d_Be_takeProduct_55 (lv_at hl 0 rfl) ?_
        refine lv_ldc2 (v := 4294967295) hx hb hown (hA_ hts ll_Be_99) d_Be_takeProduct_57 ?_
        refine nw_land (v := lN ((o + wN (sR w (s0 + j)) * φ) % 4294967296)) hx hb d_Be_takeProduct_60 (lN_low (by omega)) ?_
        refine nw_lsub (v := lZ (((wN (sR w (t0 + j)) : Nat) : Int) - (((o + wN (sR w (s0 + j)) * φ) % 4294967296 : Nat) : Int))) hx hb d_Be_takeProduct_61 lZ_pm ?_
        refine lv_lstore (lv' := [(12, .long (lZ (((wN (sR w (t0 + j)) : Nat) : Int) - (((o + wN (sR w (s0 + j)) * φ) % 4294967296 : Nat) : Int)))), (9, .long (lN (o + ((wN ((sR w (s0 + j)))) * φ)))), (11, .int (nI (s0 + j))), (8, .int (nI (t0 + j))), (7, .int (nI (s0 + cnt))), (6, .ref (ad 3)), (0, .ref (ad 2)), (1, .int (nI (t0))), (2, .int (nI (s0))), (3, .int (nI (cnt))), (4, .long (lN (φ)))]) hx hb d_Be_takeProduct_62 hl (by decide) rfl (fun ls hl => ?_)
        refine lv_aload hx hb d_Be_takeProduct_64 (lv_at hl 5 rfl) ?_
        refine lv_iload hx hb d_Be_takeProduct_66 (lv_at hl 3 rfl) ?_
        refine lv_lload hx hb d_Be_takeProduct_68 (lv_at hl 0 rfl) ?_
        refine lv_l2i (v := (lZ (((wN (sR w (t0 + j)) : Nat) : Int) - (((o + wN (sR w (s0 + j)) * φ) % 4294967296 : Nat) : Int))).toInt32) hx hb d_Be_takeProduct_70 rfl ?_
        refine nw_sR hx hb hKW.1 hP hD hS (j := t0 + j) (by omega) d_Be_takeProduct_71 (fun H locs hP hD hS => ?_)
        refine lv_lload hx hb d_Be_takeProduct_72 (lv_at hl 1 rfl) ?_
        refine lv_bipush (v := nI (32)) hx hb d_Be_takeProduct_74 (by decide) ?_
        refine lv_lushr (v := lN ((o + ((wN ((sR w (s0 + j)))) * φ)) / 4294967296)) hx hb d_Be_takeProduct_76 (lN_shr32 (by omega)) ?_
        refine lv_lload hx hb d_Be_takeProduct_77 (lv_at hl 0 rfl) ?_
        refine lv_bipush (v := nI (63)) hx hb d_Be_takeProduct_79 (by decide) ?_
        refine lv_lushr (v := lN (ngN (wN (sR w (t0 + j))) ((o + wN (sR w (s0 + j)) * φ) % 4294967296))) hx hb d_Be_takeProduct_81 (lZ_sign (wN_lt _) (Nat.mod_lt _ (by decide))) ?_
        refine nw_ladd (v := lN ((o + ((wN ((sR w (s0 + j)))) * φ)) / 4294967296 + (ngN (wN (sR w (t0 + j))) ((o + wN (sR w (s0 + j)) * φ) % 4294967296)))) hx hb d_Be_takeProduct_82 (lN_add _ _) ?_
        refine lv_lstore (lv' := [(9, .long (lN ((o + ((wN ((sR w (s0 + j)))) * φ)) / 4294967296 + (ngN (wN (sR w (t0 + j))) ((o + wN (sR w (s0 + j)) * φ) % 4294967296))))), (12, .long (lZ (((wN (sR w (t0 + j)) : Nat) : Int) - (((o + wN (sR w (s0 + j)) * φ) % 4294967296 : Nat) : Int)))), (11, .int (nI (s0 + j))), (8, .int (nI (t0 + j))), (7, .int (nI (s0 + cnt))), (6, .ref (ad 3)), (0, .ref (ad 2)), (1, .int (nI (t0))), (2, .int (nI (s0))), (3, .int (nI (cnt))), (4, .long (lN (φ)))]) hx hb d_Be_takeProduct_83 hl (by decide) rfl (fun ls hl => ?_)
        refine lv_iinc (v := nI (t0 + j + 1)) (lv' := [(8, .int (nI (t0 + j + 1))), (9, .long (lN ((o + ((wN ((sR w (s0 + j)))) * φ)) / 4294967296 + (ngN (wN (sR w (t0 + j))) ((o + wN (sR w (s0 + j)) * φ) % 4294967296))))), (12, .long (lZ (((wN (sR w (t0 + j)) : Nat) : Int) - (((o + wN (sR w (s0 + j)) * φ) % 4294967296 : Nat) : Int)))), (11, .int (nI (s0 + j))), (7, .int (nI (s0 + cnt))), (6, .ref (ad 3)), (0, .ref (ad 2)), (1, .int (nI (t0))), (2, .int (nI (s0))), (3, .int (nI (cnt))), (4, .long (lN (φ)))]) hx hb d_Be_takeProduct_85 hl (k := 3) rfl (nI_add _ 1) (by decide) rfl (fun ls hl => ?_)
        refine lv_iinc (v := nI (s0 + j + 1)) (lv' := [(11, .int (nI (s0 + j + 1))), (8, .int (nI (t0 + j + 1))), (9, .long (lN ((o + ((wN ((sR w (s0 + j)))) * φ)) / 4294967296 + (ngN (wN (sR w (t0 + j))) ((o + wN (sR w (s0 + j)) * φ) % 4294967296))))), (12, .long (lZ (((wN (sR w (t0 + j)) : Nat) : Int) - (((o + wN (sR w (s0 + j)) * φ) % 4294967296 : Nat) : Int)))), (7, .int (nI (s0 + cnt))), (6, .ref (ad 3)), (0, .ref (ad 2)), (1, .int (nI (t0))), (2, .int (nI (s0))), (3, .int (nI (cnt))), (4, .long (lN (φ)))]) hx hb d_Be_takeProduct_88 hl (k := 3) rfl (nI_add _ 1) (by decide) rfl (fun ls hl => ?_)
        refine lv_goto (tgt := 20) hx hb d_Be_takeProduct_91 (by decide) ?_
        have hb2 : (o + wN (sR w (s0 + j)) * φ) / 4294967296 + ngN (wN (sR w (t0 + j))) ((o + wN (sR w (s0 + j)) * φ) % 4294967296) < 4294967296 := by
          unfold ngN
          split <;> omega
        exact ih (j + 1) (upd f (t0 + j) (lZ (((wN (sR w (t0 + j)) : Nat) : Int) - (((o + wN (sR w (s0 + j)) * φ) % 4294967296 : Nat) : Int))).toInt32) ((o + wN (sR w (s0 + j)) * φ) / 4294967296 + ngN (wN (sR w (t0 + j))) ((o + wN (sR w (s0 + j)) * φ) % 4294967296)) H locs ls (by omega) (tp_step hm hc hinv) (so_upd hf) hb2 hP hD hS (lv_sub hl [0, 2, 1, 4, 5, 6, 7, 8, 9, 10] rfl)
  exact loop cnt 0 (sR w) 0 _ _ ls (by omega) (by show 0 + φ * 0 = 0 + 0 * 4294967296 ^ 0; omega) (so_refl _ _ _) (by omega) hP hD hS (lv_sub hl [0, 1, 2, 3, 4, 5, 6, 7, 8, 9] rfl)

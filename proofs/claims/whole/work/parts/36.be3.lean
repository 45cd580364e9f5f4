/-! THE BENCH: layDifference, layMoved, shareOf (rows laid by wip/whole/gen/c_be3.py) -/
set_option maxHeartbeats 4000000 in
set_option maxRecDepth 100000 in
/-- layDifference(r, a, half, other) -/
theorem c_Be_layDifference (l : Launch) {D : va_G} {cI cB cR : ClassId} {ad : Nat → Nat} (w : St) (sz : Nat) {r0 a0 hf oth : Nat} (h1 : r0 + hf ≤ 28672) (h2 : a0 + hf + oth ≤ 28672) (ho : oth ≤ hf) (hd : r0 + hf ≤ a0 ∨ a0 + hf + oth ≤ r0) : Met l y_Be_layDifference (q_Be_layDifference :: wA) { frames := 0, cells := 0, slots := 0, locals := 0 } (va_Pc [.ref (ad 2), .int (nI (r0)), .int (nI (a0)), .int (nI (hf)), .int (nI (oth))] (PW D cI cB cR ad w sz)) (va_Qi (fun (r : Int32) (w1 : St) => ∃ f : Nat → Int32, w1 = pR w f ∧ so f (sR w) r0 hf ∧ ((vN (sR w) a0 hf < vN (sR w) (a0 + hf) oth ∧ r = nI 1 ∧ vN f r0 hf = vN (sR w) (a0 + hf) oth - vN (sR w) a0 hf) ∨ (vN (sR w) (a0 + hf) oth ≤ vN (sR w) a0 hf ∧ r = nI 0 ∧ vN f r0 hf = vN (sR w) a0 hf - vN (sR w) (a0 + hf) oth))) (BW D cI cB cR ad) (AA ad sz)) 0 0 (AA ad sz) := by
  refine Met.ofW (cc := b_Be_layDifference) (maxL := 11) (ret := (some (.boolean))) (by decide) rfl ?_
  intro p e s m args below meth c s₁ B hml hv
  obtain ⟨rfl, hsz, hP, hD0, hKW⟩ := hv
  have hx := B.exec
  have hb := B.bytes
  have hr := B.returns
  have hts := atoms_spec (ws := q_Be_layDifference :: wA) B.pre
  have hown : s.vm.findClass R_Be = some m.cls := findClass_of_methodNamed B.named
  have hlocks := B.notSynchronized
  subst hsz
  have hD := NC_AA (sz := s.heap.size) hD0
  have hS : va_S (AA ad s.heap.size) s.heap s.heap [] := va_S.rf
  have hl := lv_entry ([.ref (ad 2), .int (nI (r0)), .int (nI (a0)), .int (nI (hf)), .int (nI (oth))]) (n := 11) (Nat.le_of_ble_eq_true rfl)
  rw [lg_entry_eq]
  generalize (lg_sl ([.ref (ad 2), .int (nI (r0)), .int (nI (a0)), .int (nI (hf)), .int (nI (oth))]) ++ List.replicate (11 - (lg_sl ([.ref (ad 2), .int (nI (r0)), .int (nI (a0)), .int (nI (hf)), .int (nI (oth))])).length) Slot.unset).toArray = ls at hl ⊢
  have hl : lv_has ls 11 [(0, .ref (ad 2)), (1, .int (nI (r0))), (2, .int (nI (a0))), (3, .int (nI (hf))), (4, .int (nI (oth)))] := hl
  refine lv_aload_n hx hb d_Be_layDifference_0 rfl (lv_at hl 0 rfl) ?_
  refine nw_gR hx hb hts hown hKW.1 hP lf_Be_11 d_Be_layDifference_1 ?_
  refine lv_astore (lv' := [(5, .ref (ad 3)), (0, .ref (ad 2)), (1, .int (nI (r0))), (2, .int (nI (a0))), (3, .int (nI (hf))), (4, .int (nI (oth)))]) hx hb d_Be_layDifference_4 hl (by decide) rfl (fun ls hl => ?_)
  refine lv_lconst (v := lN (0)) hx hb d_Be_layDifference_6 (by decide) ?_
  refine lv_lstore (lv' := [(6, .long (lN (0))), (5, .ref (ad 3)), (0, .ref (ad 2)), (1, .int (nI (r0))), (2, .int (nI (a0))), (3, .int (nI (hf))), (4, .int (nI (oth)))]) hx hb d_Be_layDifference_7 hl (by decide) rfl (fun ls hl => ?_)
  refine lv_iconst (v := nI (0)) hx hb d_Be_layDifference_9 (by decide) ?_
  refine lv_istore (lv' := [(8, .int (nI (0))), (6, .long (lN (0))), (5, .ref (ad 3)), (0, .ref (ad 2)), (1, .int (nI (r0))), (2, .int (nI (a0))), (3, .int (nI (hf))), (4, .int (nI (oth)))]) hx hb d_Be_layDifference_10 hl (by decide) rfl (fun ls hl => ?_)
  have loop2 : ∀ (f : Nat → Int32), so f (sR w) r0 hf → vN f r0 hf + vN (sR w) (a0 + hf) oth = vN (sR w) a0 hf + 4294967296 ^ hf → vN (sR w) a0 hf < vN (sR w) (a0 + hf) oth → ∀ (n j : Nat) (h : Nat → Int32) (cy : Nat) (H : Heap) (locs : List Loc) (ls : Array Slot), j + n = hf → vN h r0 j + cy * 4294967296 ^ j + vN f r0 j = 4294967296 ^ j → so h f r0 j → cy ≤ 1 → va_P D clA (NC cI cB cR ad (pR w h)) H → va_D (AA ad s.heap.size) (NC cI cB cR ad (pR w h)) → va_S (AA ad s.heap.size) s.heap H locs → lv_has ls 11 [(10, .int (nI (r0 + j))), (8, .long (lN (cy))), (5, .ref (ad 3)), (0, .ref (ad 2)), (1, .int (nI (r0))), (2, .int (nI (a0))), (3, .int (nI (hf))), (4, .int (nI (oth)))] → W p l e (headSpec (q_Be_layDifference :: wA) { frames := 0, cells := 0, slots := 0, locals := 0 }).room s m ([.ref (ad 2), .int (nI (r0)), .int (nI (a0)), .int (nI (hf)), .int (nI (oth))] : List Value).toArray below meth c H locs 0 0 (MQ below (va_Qi (fun (r : Int32) (w1 : St) => ∃ f : Nat → Int32, w1 = pR w f ∧ so f (sR w) r0 hf ∧ ((vN (sR w) a0 hf < vN (sR w) (a0 + hf) oth ∧ r = nI 1 ∧ vN f r0 hf = vN (sR w) (a0 + hf) oth - vN (sR w) a0 hf) ∨ (vN (sR w) (a0 + hf) oth ≤ vN (sR w) a0 hf ∧ r = nI 0 ∧ vN f r0 hf = vN (sR w) a0 hf - vN (sR w) (a0 + hf) oth))) (BW D cI cB cR ad) (AA ad s.heap.size)) ([.ref (ad 2), .int (nI (r0)), .int (nI (a0)), .int (nI (hf)), .int (nI (oth))] : List Value).toArray s 0 0 (AA ad s.heap.size)) (F0 m 99 ls []) := by
    intro f hsf hval hlt n
    induction n with
    | zero =>
      intro j h cy H locs ls hj hinv hf2 hc hP hD hS hl
      refine lv_iload hx hb d_Be_layDifference_99 (lv_at hl 0 rfl) ?_
      refine lv_iload_n hx hb d_Be_layDifference_101 rfl (lv_at hl 4 rfl) ?_
      refine lv_iload_n hx hb d_Be_layDifference_102 rfl (lv_at hl 6 rfl) ?_
      refine nw_iadd (v := nI (r0 + hf)) hx hb d_Be_layDifference_103 (nI_add _ _) ?_
      refine lv_icmp_ge (tgt := 145) hx hb d_Be_layDifference_104 (by decide) (fun c104 => ?_) (fun c104 => ?_)
      · skip
        have c104 : r0 + hf ≤ r0 + j := (nI_leI (by omega) (by omega)).mp c104
        have ej : j = hf := by omega
        subst ej
        refine lv_iconst (v := nI (1)) hx hb d_Be_layDifference_145 (by decide) ?_
        have hbv := vN_lt (sR w) (a0 + j) oth
        have hpw : (4294967296 : Nat) ^ oth ≤ 4294967296 ^ j := Nat.pow_le_pow_right (by decide) ho
        have hcz : cy = 0 := by
          rcases Nat.eq_zero_or_pos cy with q | q
          · exact q
          · have q1 : cy = 1 := by omega
            rw [q1] at hinv
            omega
        rw [hcz] at hinv
        exact W.zret (v := nI (1)) hx hb hr (by decide) (fun t ht hW => ⟨⟨_, pR w h, rfl, ⟨h, rfl, (hf2.wide (Nat.le_refl _)).trans hsf, Or.inl ⟨hlt, rfl, by omega⟩⟩, BW_of ht hP⟩, hS.F ht⟩) hS.2.2 d_Be_layDifference_146
      · exact absurd (nI_le (by omega) (by omega)) c104
    | succ n ih =>
      intro j h cy H locs ls hj hinv hf2 hc hP hD hS hl
      have hy := wN_not (f (r0 + j))
      refine lv_iload hx hb d_Be_layDifference_99 (lv_at hl 0 rfl) ?_
      refine lv_iload_n hx hb d_Be_layDifference_101 rfl (lv_at hl 4 rfl) ?_
      refine lv_iload_n hx hb d_Be_layDifference_102 rfl (lv_at hl 6 rfl) ?_
      refine nw_iadd (v := nI (r0 + hf)) hx hb d_Be_layDifference_103 (nI_add _ _) ?_
      refine lv_icmp_ge (tgt := 145) hx hb d_Be_layDifference_104 (by decide) (fun c104 => ?_) (fun c104 => ?_)
      · exact absurd c104 (nI_ge (by omega) (by omega))
      · skip
        refine lv_lload hx hb d_Be_layDifference_107 (lv_at hl 1 rfl) ?_
        refine lv_aload hx hb d_Be_layDifference_109 (lv_at hl 2 rfl) ?_
        refine lv_iload hx hb d_Be_layDifference_111 (lv_at hl 0 rfl) ?_
        refine nw_lR hx hb hKW.1 hP (j := r0 + j) (by omega) (x := f (r0 + j)) (hf2 _ (by omega)) d_Be_layDifference_113 ?_
        refine lv_iconst (v := -1) hx hb d_Be_layDifference_114 (by decide) ?_
        refine nw_ixor (v := (f (r0 + j)) ^^^ (-1)) hx hb d_Be_layDifference_115 rfl ?_
        refine lv_i2l (v := ((f (r0 + j)) ^^^ (-1)).toInt64) hx hb d_Be_layDifference_116 rfl ?_
        refine lv_ldc2 (v := 4294967295) hx hb hown (hA_ hts ll_Be_99) d_Be_layDifference_117 ?_
        refine nw_land (v := lN (wN (((f (r0 + j)) ^^^ (-1))))) hx hb d_Be_layDifference_120 (lw_low _) ?_
        refine nw_ladd (v := lN (cy + (wN (((f (r0 + j)) ^^^ (-1)))))) hx hb d_Be_layDifference_121 (lN_add _ _) ?_
        refine lv_lstore (lv' := [(8, .long (lN (cy + (wN (((f (r0 + j)) ^^^ (-1))))))), (10, .int (nI (r0 + j))), (5, .ref (ad 3)), (0, .ref (ad 2)), (1, .int (nI (r0))), (2, .int (nI (a0))), (3, .int (nI (hf))), (4, .int (nI (oth)))]) hx hb d_Be_layDifference_122 hl (by decide) rfl (fun ls hl => ?_)
        refine lv_aload hx hb d_Be_layDifference_124 (lv_at hl 2 rfl) ?_
        refine lv_iload hx hb d_Be_layDifference_126 (lv_at hl 1 rfl) ?_
        refine lv_lload hx hb d_Be_layDifference_128 (lv_at hl 0 rfl) ?_
        refine lv_l2i (v := nI (cy + (wN (((f (r0 + j)) ^^^ (-1)))))) hx hb d_Be_layDifference_130 (lN_i _) ?_
        refine nw_sR hx hb hKW.1 hP hD hS (j := r0 + j) (by omega) d_Be_layDifference_131 (fun H locs hP hD hS => ?_)
        refine lv_lload hx hb d_Be_layDifference_132 (lv_at hl 0 rfl) ?_
        refine lv_bipush (v := nI (32)) hx hb d_Be_layDifference_134 (by decide) ?_
        refine lv_lushr (v := lN ((cy + (wN (((f (r0 + j)) ^^^ (-1))))) / 4294967296)) hx hb d_Be_layDifference_136 (lN_shr32 (by omega)) ?_
        refine lv_lstore (lv' := [(8, .long (lN ((cy + (wN (((f (r0 + j)) ^^^ (-1))))) / 4294967296))), (10, .int (nI (r0 + j))), (5, .ref (ad 3)), (0, .ref (ad 2)), (1, .int (nI (r0))), (2, .int (nI (a0))), (3, .int (nI (hf))), (4, .int (nI (oth)))]) hx hb d_Be_layDifference_137 hl (by decide) rfl (fun ls hl => ?_)
        refine lv_iinc (v := nI (r0 + j + 1)) (lv' := [(10, .int (nI (r0 + j + 1))), (8, .long (lN ((cy + (wN (((f (r0 + j)) ^^^ (-1))))) / 4294967296))), (5, .ref (ad 3)), (0, .ref (ad 2)), (1, .int (nI (r0))), (2, .int (nI (a0))), (3, .int (nI (hf))), (4, .int (nI (oth)))]) hx hb d_Be_layDifference_139 hl (k := 1) rfl (nI_add _ 1) (by decide) rfl (fun ls hl => ?_)
        refine lv_goto (tgt := 99) hx hb d_Be_layDifference_142 (by decide) ?_
        exact ih (j + 1) (upd h (r0 + j) (nI (cy + wN (f (r0 + j) ^^^ -1)))) ((cy + wN (f (r0 + j) ^^^ -1)) / 4294967296) H locs ls (by omega) (ng_step hinv) (so_upd hf2) (by omega) hP hD hS (lv_sub hl [0, 1, 2, 3, 4, 5, 6, 7] rfl)
  have loop1 : ∀ (n j : Nat) (f : Nat → Int32) (o : Int) (H : Heap) (locs : List Loc) (ls : Array Slot), j + n = hf → ((vN f r0 j : Nat) : Int) + o * 4294967296 ^ j = ((vN (sR w) a0 j : Nat) : Int) - ((vMA (sR w) (a0 + hf) oth j : Nat) : Int) → so f (sR w) r0 j → (o = 0 ∨ o = -1) → va_P D clA (NC cI cB cR ad (pR w f)) H → va_D (AA ad s.heap.size) (NC cI cB cR ad (pR w f)) → va_S (AA ad s.heap.size) s.heap H locs → lv_has ls 11 [(8, .int (nI (j))), (6, .long (lZ (o))), (5, .ref (ad 3)), (0, .ref (ad 2)), (1, .int (nI (r0))), (2, .int (nI (a0))), (3, .int (nI (hf))), (4, .int (nI (oth)))] → W p l e (headSpec (q_Be_layDifference :: wA) { frames := 0, cells := 0, slots := 0, locals := 0 }).room s m ([.ref (ad 2), .int (nI (r0)), .int (nI (a0)), .int (nI (hf)), .int (nI (oth))] : List Value).toArray below meth c H locs 0 0 (MQ below (va_Qi (fun (r : Int32) (w1 : St) => ∃ f : Nat → Int32, w1 = pR w f ∧ so f (sR w) r0 hf ∧ ((vN (sR w) a0 hf < vN (sR w) (a0 + hf) oth ∧ r = nI 1 ∧ vN f r0 hf = vN (sR w) (a0 + hf) oth - vN (sR w) a0 hf) ∨ (vN (sR w) (a0 + hf) oth ≤ vN (sR w) a0 hf ∧ r = nI 0 ∧ vN f r0 hf = vN (sR w) a0 hf - vN (sR w) (a0 + hf) oth))) (BW D cI cB cR ad) (AA ad s.heap.size)) ([.ref (ad 2), .int (nI (r0)), .int (nI (a0)), .int (nI (hf)), .int (nI (oth))] : List Value).toArray s 0 0 (AA ad s.heap.size)) (F0 m 12 ls []) := by
    intro n
    induction n with
    | zero =>
      intro j f o H locs ls hj hinv hso hc hP hD hS hl
      refine lv_iload hx hb d_Be_layDifference_12 (lv_at hl 0 rfl) ?_
      refine lv_iload_n hx hb d_Be_layDifference_14 rfl (lv_at hl 6 rfl) ?_
      refine lv_icmp_ge (tgt := 84) hx hb d_Be_layDifference_15 (by decide) (fun c15 => ?_) (fun c15 => ?_)
      · skip
        have c15 : hf ≤ j := (nI_leI (by omega) (by omega)).mp c15
        have ej : j = hf := by omega
        subst ej
        rw [vMA_all ho] at hinv
        refine lv_lload hx hb d_Be_layDifference_84 (lv_at hl 1 rfl) ?_
        refine lv_lconst (v := lN (0)) hx hb d_Be_layDifference_86 (by decide) ?_
        refine W.lcmp hx hb d_Be_layDifference_87 ?_
        refine lv_if_ne (tgt := 93) hx hb d_Be_layDifference_88 (by decide) (fun c88 => ?_) (fun c88 => ?_)
        · skip
          have c88 : o = -1 := by rcases hc with q | q; exact absurd ((lg_cmp_eq _ _).mpr (by rw [q, lZ_0])) c88; exact q
          subst c88
          obtain ⟨q1, q2⟩ := ld_neg hinv
          refine lv_lconst (v := lN (1)) hx hb d_Be_layDifference_93 (by decide) ?_
          refine lv_lstore (lv' := [(8, .long (lN (1))), (6, .long (lZ (-1))), (5, .ref (ad 3)), (0, .ref (ad 2)), (1, .int (nI (r0))), (2, .int (nI (a0))), (3, .int (nI (j))), (4, .int (nI (oth)))]) hx hb d_Be_layDifference_94 hl (by decide) rfl (fun ls hl => ?_)
          refine lv_iload_n hx hb d_Be_layDifference_96 rfl (lv_at hl 4 rfl) ?_
          refine lv_istore (lv' := [(10, .int (nI (r0))), (8, .long (lN (1))), (6, .long (lZ (-1))), (5, .ref (ad 3)), (0, .ref (ad 2)), (1, .int (nI (r0))), (2, .int (nI (a0))), (3, .int (nI (j))), (4, .int (nI (oth)))]) hx hb d_Be_layDifference_97 hl (by decide) rfl (fun ls hl => ?_)
          exact loop2 f hso q2 q1 j 0 f 1 H locs ls (by omega) (by show 0 + 1 * 4294967296 ^ 0 + 0 = 4294967296 ^ 0; omega) (so_refl _ _ _) (by omega) hP hD hS (lv_sub hl [0, 1, 3, 4, 5, 6, 7, 8] rfl)
        · skip
          have c88 : o = 0 := ow_ne hc ((lg_cmp_eq _ _).mp c88)
          subst c88
          obtain ⟨q1, q2⟩ := ld_pos hinv
          refine lv_iconst (v := nI (0)) hx hb d_Be_layDifference_91 (by decide) ?_
          exact W.zret (v := nI (0)) hx hb hr (by decide) (fun t ht hW => ⟨⟨_, pR w f, rfl, ⟨f, rfl, hso, Or.inr ⟨q1, rfl, q2⟩⟩, BW_of ht hP⟩, hS.F ht⟩) hS.2.2 d_Be_layDifference_92
      · exact absurd (nI_le (by omega) (by omega)) c15
    | succ n ih =>
      intro j f o H locs ls hj hinv hso hc hP hD hS hl
      have hy := wN_lt (sR w (a0 + j))
      have hz := wN_lt (sR w (a0 + hf + j))
      refine lv_iload hx hb d_Be_layDifference_12 (lv_at hl 0 rfl) ?_
      refine lv_iload_n hx hb d_Be_layDifference_14 rfl (lv_at hl 6 rfl) ?_
      refine lv_icmp_ge (tgt := 84) hx hb d_Be_layDifference_15 (by decide) (fun c15 => ?_) (fun c15 => ?_)
      · exact absurd c15 (nI_ge (by omega) (by omega))
      · skip
        refine lv_lload hx hb d_Be_layDifference_18 (lv_at hl 1 rfl) ?_
        refine lv_aload hx hb d_Be_layDifference_20 (lv_at hl 2 rfl) ?_
        refine lv_iload_n hx hb d_Be_layDifference_22 rfl (lv_at hl 5 rfl) ?_
        refine lv_iload hx hb d_Be_layDifference_23 (lv_at hl 0 rfl) ?_
        refine nw_iadd (v := nI (a0 + j)) hx hb d_Be_layDifference_25 (nI_add _ _) ?_
        refine nw_lR hx hb hKW.1 hP (j := a0 + j) (by omega) (x := sR w (a0 + j)) (hso _ (by omega)) d_Be_layDifference_26 ?_
        refine lv_i2l (v := (sR w (a0 + j)).toInt64) hx hb d_Be_layDifference_27 rfl ?_
        refine lv_ldc2 (v := 4294967295) hx hb hown (hA_ hts ll_Be_99) d_Be_layDifference_28 ?_
        refine nw_land (v := lN (wN ((sR w (a0 + j))))) hx hb d_Be_layDifference_31 (lw_low _) ?_
        refine lv_iload hx hb d_Be_layDifference_32 (lv_at hl 0 rfl) ?_
        refine lv_iload hx hb d_Be_layDifference_34 (lv_at hl 7 rfl) ?_
        refine lv_icmp_ge (tgt := 56) hx hb d_Be_layDifference_36 (by decide) (fun c36 => ?_) (fun c36 => ?_)
        · skip
          have c36 : oth ≤ j := (nI_leI (by omega) (by omega)).mp c36
          refine lv_lconst (v := lN (0)) hx hb d_Be_layDifference_56 (by decide) ?_
          refine nw_lsub (v := lZ (((wN (sR w (a0 + j)) : Nat) : Int) - ((0 : Nat) : Int))) hx hb d_Be_layDifference_57 lZ_pm ?_
          refine nw_ladd (v := lZ (o + (((wN (sR w (a0 + j)) : Nat) : Int) - ((0 : Nat) : Int)))) hx hb d_Be_layDifference_58 (lZ_add _ _) ?_
          refine lv_lstore (lv' := [(6, .long (lZ (o + (((wN (sR w (a0 + j)) : Nat) : Int) - ((0 : Nat) : Int))))), (8, .int (nI (j))), (5, .ref (ad 3)), (0, .ref (ad 2)), (1, .int (nI (r0))), (2, .int (nI (a0))), (3, .int (nI (hf))), (4, .int (nI (oth)))]) hx hb d_Be_layDifference_59 hl (by decide) rfl (fun ls hl => ?_)
          refine lv_aload hx hb d_Be_layDifference_61 (lv_at hl 2 rfl) ?_
          refine lv_iload_n hx hb d_Be_layDifference_63 rfl (lv_at hl 4 rfl) ?_
          refine lv_iload hx hb d_Be_layDifference_64 (lv_at hl 1 rfl) ?_
          refine nw_iadd (v := nI (r0 + j)) hx hb d_Be_layDifference_66 (nI_add _ _) ?_
          refine lv_lload hx hb d_Be_layDifference_67 (lv_at hl 0 rfl) ?_
          refine lv_l2i (v := (lZ (o + (((wN (sR w (a0 + j)) : Nat) : Int) - ((0 : Nat) : Int)))).toInt32) hx hb d_Be_layDifference_69 rfl ?_
          refine nw_sR hx hb hKW.1 hP hD hS (j := r0 + j) (by omega) d_Be_layDifference_70 (fun H locs hP hD hS => ?_)
          refine lv_lload hx hb d_Be_layDifference_71 (lv_at hl 0 rfl) ?_
          refine lv_bipush (v := nI (32)) hx hb d_Be_layDifference_73 (by decide) ?_
          refine lv_lshr (v := lZ ((o + (((wN (sR w (a0 + j)) : Nat) : Int) - ((0 : Nat) : Int))) / 4294967296)) hx hb d_Be_layDifference_75 (lZ_shr (by omega) (by omega)) ?_
          refine lv_lstore (lv' := [(6, .long (lZ ((o + (((wN (sR w (a0 + j)) : Nat) : Int) - ((0 : Nat) : Int))) / 4294967296))), (8, .int (nI (j))), (5, .ref (ad 3)), (0, .ref (ad 2)), (1, .int (nI (r0))), (2, .int (nI (a0))), (3, .int (nI (hf))), (4, .int (nI (oth)))]) hx hb d_Be_layDifference_76 hl (by decide) rfl (fun ls hl => ?_)
          refine lv_iinc (v := nI (j + 1)) (lv' := [(8, .int (nI (j + 1))), (6, .long (lZ ((o + (((wN (sR w (a0 + j)) : Nat) : Int) - ((0 : Nat) : Int))) / 4294967296))), (5, .ref (ad 3)), (0, .ref (ad 2)), (1, .int (nI (r0))), (2, .int (nI (a0))), (3, .int (nI (hf))), (4, .int (nI (oth)))]) hx hb d_Be_layDifference_78 hl (k := 1) rfl (nI_add _ 1) (by decide) rfl (fun ls hl => ?_)
          refine lv_goto (tgt := 12) hx hb d_Be_layDifference_81 (by decide) ?_
          exact ih (j + 1) (upd f (r0 + j) (lZ (o + (((wN (sR w (a0 + j)) : Nat) : Int) - ((0 : Nat) : Int)))).toInt32) ((o + (((wN (sR w (a0 + j)) : Nat) : Int) - ((0 : Nat) : Int))) / 4294967296) H locs ls (by omega) (ld_step hinv (sbA_lt _ _ _) (vMA_ge c36)) (so_upd hso) (by omega) hP hD hS (lv_sub hl [0, 1, 2, 3, 4, 5, 6, 7] rfl)
        · skip
          have c36 : ¬ (oth ≤ j) := fun h => c36 ((nI_leI (by omega) (by omega)).mpr h)
          refine lv_aload hx hb d_Be_layDifference_39 (lv_at hl 2 rfl) ?_
          refine lv_iload_n hx hb d_Be_layDifference_41 rfl (lv_at hl 5 rfl) ?_
          refine lv_iload_n hx hb d_Be_layDifference_42 rfl (lv_at hl 6 rfl) ?_
          refine nw_iadd (v := nI (a0 + hf)) hx hb d_Be_layDifference_43 (nI_add _ _) ?_
          refine lv_iload hx hb d_Be_layDifference_44 (lv_at hl 0 rfl) ?_
          refine nw_iadd (v := nI (a0 + hf + j)) hx hb d_Be_layDifference_46 (nI_add _ _) ?_
          refine nw_lR hx hb hKW.1 hP (j := a0 + hf + j) (by omega) (x := sR w (a0 + hf + j)) (hso _ (by omega)) d_Be_layDifference_47 ?_
          refine lv_i2l (v := (sR w (a0 + hf + j)).toInt64) hx hb d_Be_layDifference_48 rfl ?_
          refine lv_ldc2 (v := 4294967295) hx hb hown (hA_ hts ll_Be_99) d_Be_layDifference_49 ?_
          refine nw_land (v := lN (wN ((sR w (a0 + hf + j))))) hx hb d_Be_layDifference_52 (lw_low _) ?_
          refine lv_goto (tgt := 57) hx hb d_Be_layDifference_53 (by decide) ?_
          refine nw_lsub (v := lZ (((wN (sR w (a0 + j)) : Nat) : Int) - ((wN (sR w (a0 + hf + j)) : Nat) : Int))) hx hb d_Be_layDifference_57 lZ_pm ?_
          refine nw_ladd (v := lZ (o + (((wN (sR w (a0 + j)) : Nat) : Int) - ((wN (sR w (a0 + hf + j)) : Nat) : Int)))) hx hb d_Be_layDifference_58 (lZ_add _ _) ?_
          refine lv_lstore (lv' := [(6, .long (lZ (o + (((wN (sR w (a0 + j)) : Nat) : Int) - ((wN (sR w (a0 + hf + j)) : Nat) : Int))))), (8, .int (nI (j))), (5, .ref (ad 3)), (0, .ref (ad 2)), (1, .int (nI (r0))), (2, .int (nI (a0))), (3, .int (nI (hf))), (4, .int (nI (oth)))]) hx hb d_Be_layDifference_59 hl (by decide) rfl (fun ls hl => ?_)
          refine lv_aload hx hb d_Be_layDifference_61 (lv_at hl 2 rfl) ?_
          refine lv_iload_n hx hb d_Be_layDifference_63 rfl (lv_at hl 4 rfl) ?_
          refine lv_iload hx hb d_Be_layDifference_64 (lv_at hl 1 rfl) ?_
          refine nw_iadd (v := nI (r0 + j)) hx hb d_Be_layDifference_66 (nI_add _ _) ?_
          refine lv_lload hx hb d_Be_layDifference_67 (lv_at hl 0 rfl) ?_
          refine lv_l2i (v := (lZ (o + (((wN (sR w (a0 + j)) : Nat) : Int) - ((wN (sR w (a0 + hf + j)) : Nat) : Int)))).toInt32) hx hb d_Be_layDifference_69 rfl ?_
          refine nw_sR hx hb hKW.1 hP hD hS (j := r0 + j) (by omega) d_Be_layDifference_70 (fun H locs hP hD hS => ?_)
          refine lv_lload hx hb d_Be_layDifference_71 (lv_at hl 0 rfl) ?_
          refine lv_bipush (v := nI (32)) hx hb d_Be_layDifference_73 (by decide) ?_
          refine lv_lshr (v := lZ ((o + (((wN (sR w (a0 + j)) : Nat) : Int) - ((wN (sR w (a0 + hf + j)) : Nat) : Int))) / 4294967296)) hx hb d_Be_layDifference_75 (lZ_shr (by omega) (by omega)) ?_
          refine lv_lstore (lv' := [(6, .long (lZ ((o + (((wN (sR w (a0 + j)) : Nat) : Int) - ((wN (sR w (a0 + hf + j)) : Nat) : Int))) / 4294967296))), (8, .int (nI (j))), (5, .ref (ad 3)), (0, .ref (ad 2)), (1, .int (nI (r0))), (2, .int (nI (a0))), (3, .int (nI (hf))), (4, .int (nI (oth)))]) hx hb d_Be_layDifference_76 hl (by decide) rfl (fun ls hl => ?_)
          refine lv_iinc (v := nI (j + 1)) (lv' := [(8, .int (nI (j + 1))), (6, .long (lZ ((o + (((wN (sR w (a0 + j)) : Nat) : Int) - ((wN (sR w (a0 + hf + j)) : Nat) : Int))) / 4294967296))), (5, .ref (ad 3)), (0, .ref (ad 2)), (1, .int (nI (r0))), (2, .int (nI (a0))), (3, .int (nI (hf))), (4, .int (nI (oth)))]) hx hb d_Be_layDifference_78 hl (k := 1) rfl (nI_add _ 1) (by decide) rfl (fun ls hl => ?_)
          refine lv_goto (tgt := 12) hx hb d_Be_layDifference_81 (by decide) ?_
          exact ih (j + 1) (upd f (r0 + j) (lZ (o + (((wN (sR w (a0 + j)) : Nat) : Int) - ((wN (sR w (a0 + hf + j)) : Nat) : Int)))).toInt32) ((o + (((wN (sR w (a0 + j)) : Nat) : Int) - ((wN (sR w (a0 + hf + j)) : Nat) : Int))) / 4294967296) H locs ls (by omega) (ld_step hinv (sbA_lt _ _ _) (vMA_lt (Nat.not_le.mp c36))) (so_upd hso) (by omega) hP hD hS (lv_sub hl [0, 1, 2, 3, 4, 5, 6, 7] rfl)
  have hl : lv_has ls 11 [(8, .int (nI (0))), (6, .long (lZ (0))), (5, .ref (ad 3)), (0, .ref (ad 2)), (1, .int (nI (r0))), (2, .int (nI (a0))), (3, .int (nI (hf))), (4, .int (nI (oth)))] := by have := (lv_sub (l' := [(8, .int (nI (0))), (6, .long (lN (0))), (5, .ref (ad 3)), (0, .ref (ad 2)), (1, .int (nI (r0))), (2, .int (nI (a0))), (3, .int (nI (hf))), (4, .int (nI (oth)))]) hl [0, 1, 2, 3, 4, 5, 6, 7] rfl); rw [lZ_0] at this; exact this
  exact loop1 hf 0 (sR w) 0 _ _ ls (by omega) (by rw [vMA_0]; rfl) (so_refl _ _ _) (Or.inl rfl) hP hD hS hl
set_option maxHeartbeats 4000000 in
set_option maxRecDepth 100000 in
/-- layMoved(at, a, up) -/
theorem c_Be_layMoved (l : Launch) {D : va_G} {cI cB cR : ClassId} {ad : Nat → Nat} (w : St) (sz : Nat) {p0 a v up : Nat} (ha : a < 14) (hv : NV w a v) (hup : up < 32) (h1 : p0 + sL w a + 1 ≤ 28672) : Met l y_Be_layMoved (q_Be_layMoved :: wA) { frames := 0, cells := 0, slots := 0, locals := 0 } (va_Pc [.ref (ad 2), .int (nI (p0)), .ref (ad (2 * a + 8)), .int (nI (up))] (PW D cI cB cR ad w sz)) (va_Qv (fun w1 : St => ∃ f : Nat → Int32, w1 = pR w f ∧ so f (sR w) p0 (sL w a + 1) ∧ vN f p0 (sL w a + 1) = v * 2 ^ up) (BW D cI cB cR ad) (AA ad sz)) 0 0 (AA ad sz) := by
  refine Met.ofW (cc := b_Be_layMoved) (maxL := 7) (ret := none) (by decide) rfl ?_
  intro p e s m args below meth c s₁ B hml hv
  obtain ⟨rfl, hsz, hP, hD0, hKW⟩ := hv
  have hx := B.exec
  have hb := B.bytes
  have hr := B.returns
  have hts := atoms_spec (ws := q_Be_layMoved :: wA) B.pre
  have hown : s.vm.findClass R_Be = some m.cls := findClass_of_methodNamed B.named
  have hlocks := B.notSynchronized
  subst hsz
  have hD := NC_AA (sz := s.heap.size) hD0
  have hS : va_S (AA ad s.heap.size) s.heap s.heap [] := va_S.rf
  have hl := lv_entry ([.ref (ad 2), .int (nI (p0)), .ref (ad (2 * a + 8)), .int (nI (up))]) (n := 7) (Nat.le_of_ble_eq_true rfl)
  rw [lg_entry_eq]
  generalize (lg_sl ([.ref (ad 2), .int (nI (p0)), .ref (ad (2 * a + 8)), .int (nI (up))]) ++ List.replicate (7 - (lg_sl ([.ref (ad 2), .int (nI (p0)), .ref (ad (2 * a + 8)), .int (nI (up))])).length) Slot.unset).toArray = ls at hl ⊢
  have hl : lv_has ls 7 [(0, .ref (ad 2)), (1, .int (nI (p0))), (2, .ref (ad (2 * a + 8))), (3, .int (nI (up)))] := hl
  have hla := hv.len
  refine lv_iconst (v := nI (0)) hx hb d_Be_layMoved_0 (by decide) ?_
  refine lv_istore (lv' := [(4, .int (nI (0))), (0, .ref (ad 2)), (1, .int (nI (p0))), (2, .ref (ad (2 * a + 8))), (3, .int (nI (up)))]) hx hb d_Be_layMoved_1 hl (by decide) rfl (fun ls hl => ?_)
  refine lv_iconst (v := nI (0)) hx hb d_Be_layMoved_3 (by decide) ?_
  refine lv_istore (lv' := [(5, .int (nI (0))), (4, .int (nI (0))), (0, .ref (ad 2)), (1, .int (nI (p0))), (2, .ref (ad (2 * a + 8))), (3, .int (nI (up)))]) hx hb d_Be_layMoved_4 hl (by decide) rfl (fun ls hl => ?_)
  have loop : ∀ (n j : Nat) (f : Nat → Int32) (y : Int32) (H : Heap) (locs : List Loc) (ls : Array Slot), j + n = sL w a → vN f p0 j + wN y * 2 ^ up / 4294967296 * 4294967296 ^ j = vN (sW w a) 0 j * 2 ^ up → so f (sR w) p0 j → va_P D clA (NC cI cB cR ad (pR w f)) H → va_D (AA ad s.heap.size) (NC cI cB cR ad (pR w f)) → va_S (AA ad s.heap.size) s.heap H locs → lv_has ls 7 [(5, .int (nI (j))), (4, .int (y)), (0, .ref (ad 2)), (1, .int (nI (p0))), (2, .ref (ad (2 * a + 8))), (3, .int (nI (up)))] → W p l e (headSpec (q_Be_layMoved :: wA) { frames := 0, cells := 0, slots := 0, locals := 0 }).room s m ([.ref (ad 2), .int (nI (p0)), .ref (ad (2 * a + 8)), .int (nI (up))] : List Value).toArray below meth c H locs 0 0 (MQ below (va_Qv (fun w1 : St => ∃ f : Nat → Int32, w1 = pR w f ∧ so f (sR w) p0 (sL w a + 1) ∧ vN f p0 (sL w a + 1) = v * 2 ^ up) (BW D cI cB cR ad) (AA ad s.heap.size)) ([.ref (ad 2), .int (nI (p0)), .ref (ad (2 * a + 8)), .int (nI (up))] : List Value).toArray s 0 0 (AA ad s.heap.size)) (F0 m 6 ls []) := by
    intro n
    induction n with
    | zero =>
      intro j f y H locs ls hj hinv hso hP hD hS hl
      refine lv_iload hx hb d_Be_layMoved_6 (lv_at hl 0 rfl) ?_
      refine lv_aload_n hx hb d_Be_layMoved_8 rfl (lv_at hl 4 rfl) ?_
      refine nw_gL hx hb hts hown hKW.1 hP (i := a) (by omega) (n := sL w a) rfl lf_Be_15 d_Be_layMoved_9 ?_
      refine lv_icmp_ge (tgt := 64) hx hb d_Be_layMoved_12 (by decide) (fun c12 => ?_) (fun c12 => ?_)
      · skip
        have c12 : sL w a ≤ j := (nI_leI (by omega) (by omega)).mp c12
        have ej : j = sL w a := by omega
        subst ej
        refine lv_aload_n hx hb d_Be_layMoved_64 rfl (lv_at hl 2 rfl) ?_
        refine nw_gR hx hb hts hown hKW.1 hP lf_Be_11 d_Be_layMoved_65 ?_
        refine lv_iload_n hx hb d_Be_layMoved_68 rfl (lv_at hl 3 rfl) ?_
        refine lv_aload_n hx hb d_Be_layMoved_69 rfl (lv_at hl 4 rfl) ?_
        refine nw_gL hx hb hts hown hKW.1 hP (i := a) (by omega) (n := sL w a) rfl lf_Be_15 d_Be_layMoved_70 ?_
        refine nw_iadd (v := nI (p0 + (sL w a))) hx hb d_Be_layMoved_73 (nI_add _ _) ?_
        refine lv_iload_n hx hb d_Be_layMoved_74 rfl (lv_at hl 5 rfl) ?_
        refine lv_if_ne (tgt := 82) hx hb d_Be_layMoved_75 (by decide) (fun c75 => ?_) (fun c75 => ?_)
        · skip
          have c75 : ¬ (up = 0) := fun h => c75 (by have := (nI_eq (by omega) (by omega)).mpr h; rwa [nI_0] at this)
          refine lv_iload hx hb d_Be_layMoved_82 (lv_at hl 1 rfl) ?_
          refine lv_bipush (v := nI (32)) hx hb d_Be_layMoved_84 (by decide) ?_
          refine lv_iload_n hx hb d_Be_layMoved_86 rfl (lv_at hl 5 rfl) ?_
          refine nw_isub (v := nI (32 - up)) hx hb d_Be_layMoved_87 (pk_sub (by omega)) ?_
          refine lv_iushr (v := us y (32 - up)) hx hb d_Be_layMoved_88 rfl ?_
          refine nw_sR hx hb hKW.1 hP hD hS (j := p0 + (sL w a)) (by omega) d_Be_layMoved_89 (fun H locs hP hD hS => ?_)
          exact W.vret hx hb hr (fun t ht hW => ⟨⟨pR w (upd f (p0 + sL w a) (us y (32 - up))), rfl, ⟨_, rfl, so_upd hso, by rw [vN_push, lm_top hup c75, hinv, hv.2.2]⟩, BW_of ht hP⟩, hS.F ht⟩) hS.2.2 d_Be_layMoved_90
        · skip
          have c75 : up = 0 := (nI_eq (by omega) (by omega)).mp (by rw [nI_0]; exact c75)
          refine lv_iconst (v := nI (0)) hx hb d_Be_layMoved_78 (by decide) ?_
          refine lv_goto (tgt := 89) hx hb d_Be_layMoved_79 (by decide) ?_
          refine nw_sR hx hb hKW.1 hP hD hS (j := p0 + (sL w a)) (by omega) d_Be_layMoved_89 (fun H locs hP hD hS => ?_)
          have hy := wN_lt y
          exact W.vret hx hb hr (fun t ht hW => ⟨⟨pR w (upd f (p0 + sL w a) (nI 0)), rfl, ⟨_, rfl, so_upd hso, by rw [vN_push, nI_0, wN_0, Nat.zero_mul, Nat.add_zero, ← hv.2.2, ← hinv, c75, Nat.pow_zero, Nat.mul_one, Nat.div_eq_of_lt hy, Nat.zero_mul, Nat.add_zero]⟩, BW_of ht hP⟩, hS.F ht⟩) hS.2.2 d_Be_layMoved_90
      · exact absurd (nI_le (by omega) (by omega)) c12
    | succ n ih =>
      intro j f y H locs ls hj hinv hso hP hD hS hl
      refine lv_iload hx hb d_Be_layMoved_6 (lv_at hl 0 rfl) ?_
      refine lv_aload_n hx hb d_Be_layMoved_8 rfl (lv_at hl 4 rfl) ?_
      refine nw_gL hx hb hts hown hKW.1 hP (i := a) (by omega) (n := sL w a) rfl lf_Be_15 d_Be_layMoved_9 ?_
      refine lv_icmp_ge (tgt := 64) hx hb d_Be_layMoved_12 (by decide) (fun c12 => ?_) (fun c12 => ?_)
      · exact absurd c12 (nI_ge (by omega) (by omega))
      · skip
        refine lv_aload_n hx hb d_Be_layMoved_15 rfl (lv_at hl 4 rfl) ?_
        refine nw_gW hx hb hts hown hKW.1 hP (i := a) (by omega) lf_Be_21 d_Be_layMoved_16 ?_
        refine lv_iload hx hb d_Be_layMoved_19 (lv_at hl 0 rfl) ?_
        refine nw_lW hx hb hKW.1 hP (i := a) (by omega) (j := j) (by omega) (x := sW w a j) rfl d_Be_layMoved_21 ?_
        refine lv_istore (lv' := [(6, .int (sW w a j)), (5, .int (nI (j))), (4, .int (y)), (0, .ref (ad 2)), (1, .int (nI (p0))), (2, .ref (ad (2 * a + 8))), (3, .int (nI (up)))]) hx hb d_Be_layMoved_22 hl (by decide) rfl (fun ls hl => ?_)
        refine lv_aload_n hx hb d_Be_layMoved_24 rfl (lv_at hl 3 rfl) ?_
        refine nw_gR hx hb hts hown hKW.1 hP lf_Be_11 d_Be_layMoved_25 ?_
        refine lv_iload_n hx hb d_Be_layMoved_28 rfl (lv_at hl 4 rfl) ?_
        refine lv_iload hx hb d_Be_layMoved_29 (lv_at hl 1 rfl) ?_
        refine nw_iadd (v := nI (p0 + j)) hx hb d_Be_layMoved_31 (nI_add _ _) ?_
        refine lv_iload_n hx hb d_Be_layMoved_32 rfl (lv_at hl 6 rfl) ?_
        refine lv_if_ne (tgt := 41) hx hb d_Be_layMoved_33 (by decide) (fun c33 => ?_) (fun c33 => ?_)
        · skip
          have c33 : ¬ (up = 0) := fun h => c33 (by have := (nI_eq (by omega) (by omega)).mpr h; rwa [nI_0] at this)
          refine lv_iload hx hb d_Be_layMoved_41 (lv_at hl 0 rfl) ?_
          refine lv_iload_n hx hb d_Be_layMoved_43 rfl (lv_at hl 6 rfl) ?_
          refine nw_ishl (v := sl (sW w a j) up) hx hb d_Be_layMoved_44 rfl ?_
          refine lv_iload hx hb d_Be_layMoved_45 (lv_at hl 2 rfl) ?_
          refine lv_bipush (v := nI (32)) hx hb d_Be_layMoved_47 (by decide) ?_
          refine lv_iload_n hx hb d_Be_layMoved_49 rfl (lv_at hl 6 rfl) ?_
          refine nw_isub (v := nI (32 - up)) hx hb d_Be_layMoved_50 (pk_sub (by omega)) ?_
          refine lv_iushr (v := us y (32 - up)) hx hb d_Be_layMoved_51 rfl ?_
          refine nw_ior (v := (sl (sW w a j) up) ||| (us y (32 - up))) hx hb d_Be_layMoved_52 rfl ?_
          refine nw_sR hx hb hKW.1 hP hD hS (j := p0 + j) (by omega) d_Be_layMoved_53 (fun H locs hP hD hS => ?_)
          refine lv_iload hx hb d_Be_layMoved_54 (lv_at hl 0 rfl) ?_
          refine lv_istore (lv' := [(4, .int (sW w a j)), (6, .int (sW w a j)), (5, .int (nI (j))), (0, .ref (ad 2)), (1, .int (nI (p0))), (2, .ref (ad (2 * a + 8))), (3, .int (nI (up)))]) hx hb d_Be_layMoved_56 hl (by decide) rfl (fun ls hl => ?_)
          refine lv_iinc (v := nI (j + 1)) (lv' := [(5, .int (nI (j + 1))), (4, .int (sW w a j)), (6, .int (sW w a j)), (0, .ref (ad 2)), (1, .int (nI (p0))), (2, .ref (ad (2 * a + 8))), (3, .int (nI (up)))]) hx hb d_Be_layMoved_58 hl (k := 2) rfl (nI_add _ 1) (by decide) rfl (fun ls hl => ?_)
          refine lv_goto (tgt := 6) hx hb d_Be_layMoved_61 (by decide) ?_
          have hP : va_P D clA (NC cI cB cR ad (pR w (upd f (p0 + j) (sl (sW w a j) up ||| us y (32 - up))))) H := hP
          have hD : va_D (AA ad s.heap.size) (NC cI cB cR ad (pR w (upd f (p0 + j) (sl (sW w a j) up ||| us y (32 - up))))) := hD
          rw [show (sl (sW w a j) up ||| us y (32 - up)) = upw up (sW w a j) y from (if_neg c33).symm] at hP hD
          exact ih (j + 1) (upd f (p0 + j) (upw up (sW w a j) y)) (sW w a j) H locs ls (by omega) (lm_step hup rfl hinv) (so_upd hso) hP hD hS (lv_sub hl [0, 1, 3, 4, 5, 6] rfl)
        · skip
          have c33 : up = 0 := (nI_eq (by omega) (by omega)).mp (by rw [nI_0]; exact c33)
          refine lv_iload hx hb d_Be_layMoved_36 (lv_at hl 0 rfl) ?_
          refine lv_goto (tgt := 53) hx hb d_Be_layMoved_38 (by decide) ?_
          refine nw_sR hx hb hKW.1 hP hD hS (j := p0 + j) (by omega) d_Be_layMoved_53 (fun H locs hP hD hS => ?_)
          refine lv_iload hx hb d_Be_layMoved_54 (lv_at hl 0 rfl) ?_
          refine lv_istore (lv' := [(4, .int (sW w a j)), (6, .int (sW w a j)), (5, .int (nI (j))), (0, .ref (ad 2)), (1, .int (nI (p0))), (2, .ref (ad (2 * a + 8))), (3, .int (nI (up)))]) hx hb d_Be_layMoved_56 hl (by decide) rfl (fun ls hl => ?_)
          refine lv_iinc (v := nI (j + 1)) (lv' := [(5, .int (nI (j + 1))), (4, .int (sW w a j)), (6, .int (sW w a j)), (0, .ref (ad 2)), (1, .int (nI (p0))), (2, .ref (ad (2 * a + 8))), (3, .int (nI (up)))]) hx hb d_Be_layMoved_58 hl (k := 2) rfl (nI_add _ 1) (by decide) rfl (fun ls hl => ?_)
          refine lv_goto (tgt := 6) hx hb d_Be_layMoved_61 (by decide) ?_
          have hP : va_P D clA (NC cI cB cR ad (pR w (upd f (p0 + j) (sW w a j)))) H := hP
          have hD : va_D (AA ad s.heap.size) (NC cI cB cR ad (pR w (upd f (p0 + j) (sW w a j)))) := hD
          rw [show (sW w a j) = upw up (sW w a j) y from (if_pos c33).symm] at hP hD
          exact ih (j + 1) (upd f (p0 + j) (upw up (sW w a j) y)) (sW w a j) H locs ls (by omega) (lm_step hup rfl hinv) (so_upd hso) hP hD hS (lv_sub hl [0, 1, 3, 4, 5, 6] rfl)
  exact loop (sL w a) 0 (sR w) (nI 0) _ _ ls (by omega) (by show 0 + wN (nI 0) * 2 ^ up / 4294967296 * 4294967296 ^ 0 = 0 * 2 ^ up; rw [nI_0, wN_0, Nat.zero_mul, Nat.zero_div, Nat.zero_mul]) (so_refl _ _ _) hP hD hS (lv_sub hl [0, 1, 2, 3, 4, 5] rfl)
set_option maxHeartbeats 4000000 in
set_option maxRecDepth 100000 in
/-- shareOf(both, first) -/
theorem c_Be_shareOf (l : Launch) {D : va_G} {cI cB cR : ClassId} {ad : Nat → Nat} (w : St) (sz : Nat) {b d : Nat} (hb2 : b < 2 ^ 64) (h0 : 0 < d) (hd : d < 4294967296) : Met l y_Be_shareOf (q_Be_shareOf :: wA) { frames := 0, cells := 0, slots := 0, locals := 0 } (va_Pc [.long (lN (b)), .long (lN (d))] (PW D cI cB cR ad w sz)) (va_Ql (fun (r : Int64) (w1 : St) => r = lN (b / d) ∧ w1 = w) (BW D cI cB cR ad) (AA ad sz)) 0 0 (AA ad sz) := by
  refine Met.ofW (cc := b_Be_shareOf) (maxL := 6) (ret := (some (.long))) (by decide) rfl ?_
  intro p e s m args below meth c s₁ B hml hv
  obtain ⟨rfl, hsz, hP, hD0, hKW⟩ := hv
  have hx := B.exec
  have hb := B.bytes
  have hr := B.returns
  have hts := atoms_spec (ws := q_Be_shareOf :: wA) B.pre
  have hown : s.vm.findClass R_Be = some m.cls := findClass_of_methodNamed B.named
  have hlocks := B.notSynchronized
  subst hsz
  have hD := NC_AA (sz := s.heap.size) hD0
  have hS : va_S (AA ad s.heap.size) s.heap s.heap [] := va_S.rf
  have hl := lv_entry ([.long (lN (b)), .long (lN (d))]) (n := 6) (Nat.le_of_ble_eq_true rfl)
  rw [lg_entry_eq]
  generalize (lg_sl ([.long (lN (b)), .long (lN (d))]) ++ List.replicate (6 - (lg_sl ([.long (lN (b)), .long (lN (d))])).length) Slot.unset).toArray = ls at hl ⊢
  have hl : lv_has ls 6 [(0, .long (lN (b))), (2, .long (lN (d)))] := hl
  obtain ⟨q1, q2, q3, q4⟩ := sh_eq (b := b) h0
  have hq : b / 2 / d ≤ b / 2 := Nat.div_le_self _ _
  refine lv_lload_n hx hb d_Be_shareOf_0 rfl (lv_at hl 0 rfl) ?_
  refine lv_iconst (v := nI (1)) hx hb d_Be_shareOf_1 (by decide) ?_
  refine lv_lushr (v := lN (b / 2)) hx hb d_Be_shareOf_2 (lN_shr hb2 (by decide)) ?_
  refine lv_lload_n hx hb d_Be_shareOf_3 rfl (lv_at hl 1 rfl) ?_
  refine nw_ldiv (v := lN (b / 2 / d)) hx hb d_Be_shareOf_4 (lN_ne0 h0 (by omega)) (pk_lDiv (by omega) h0 (by omega)) ?_
  refine lv_iconst (v := nI (1)) hx hb d_Be_shareOf_5 (by decide) ?_
  refine lv_lshl (v := lN (b / 2 / d * 2)) hx hb d_Be_shareOf_6 (lN_shl _ (by decide)) ?_
  refine lv_lstore (lv' := [(4, .long (lN (b / 2 / d * 2))), (0, .long (lN (b))), (2, .long (lN (d)))]) hx hb d_Be_shareOf_7 hl (by decide) rfl (fun ls hl => ?_)
  refine lv_lload_n hx hb d_Be_shareOf_9 rfl (lv_at hl 1 rfl) ?_
  refine lv_lload hx hb d_Be_shareOf_10 (lv_at hl 0 rfl) ?_
  refine lv_lload_n hx hb d_Be_shareOf_12 rfl (lv_at hl 2 rfl) ?_
  refine nw_lmul (v := lN (b / 2 / d * 2 * d)) hx hb d_Be_shareOf_13 (lN_mul _ _) ?_
  refine nw_lsub (v := lN (b - b / 2 / d * 2 * d)) hx hb d_Be_shareOf_14 (lN_sub q2) ?_
  refine lv_lload_n hx hb d_Be_shareOf_15 rfl (lv_at hl 2 rfl) ?_
  refine W.lcmp hx hb d_Be_shareOf_16 ?_
  refine lv_if_ge (tgt := 25) hx hb d_Be_shareOf_17 (by decide) (fun c17 => ?_) (fun c17 => ?_)
  · skip
    have c17 : ¬ b - b / 2 / d * 2 * d < d := fun h => absurd ((pk_lLE (by omega) (by omega)).mp ((lg_cmp_ge _ _).mp c17)) (by omega)
    refine lv_lload hx hb d_Be_shareOf_25 (lv_at hl 0 rfl) ?_
    refine lv_lconst (v := lN (1)) hx hb d_Be_shareOf_27 (by decide) ?_
    refine nw_ladd (v := lN (b / 2 / d * 2 + 1)) hx hb d_Be_shareOf_28 (lN_add _ _) ?_
    rw [← q4 c17]
    exact W.lret (v := lN (b / d)) hx hb hr (fun t ht hW => ⟨⟨_, w, rfl, ⟨rfl, rfl⟩, BW_of ht hP⟩, hS.F ht⟩) hS.2.2 d_Be_shareOf_29
  · skip
    have c17 : b - b / 2 / d * 2 * d < d := Nat.not_le.mp (fun h => c17 ((lg_cmp_ge _ _).mpr ((pk_lLE (by omega) (by omega)).mpr h)))
    refine lv_lload hx hb d_Be_shareOf_20 (lv_at hl 0 rfl) ?_
    refine lv_goto (tgt := 29) hx hb d_Be_shareOf_22 (by decide) ?_
    rw [← q3 c17]
    exact W.lret (v := lN (b / d)) hx hb hr (fun t ht hW => ⟨⟨_, w, rfl, ⟨rfl, rfl⟩, BW_of ht hP⟩, hS.F ht⟩) hS.2.2 d_Be_shareOf_29

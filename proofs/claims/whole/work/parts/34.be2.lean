/-! THE BENCH: the contracts of its word loops, 2 (rows laid by wip/whole/gen/c_be2.py) -/
set_option maxHeartbeats 4000000 in
set_option maxRecDepth 100000 in
/-- addInto(at, atCount, from, count) -/
theorem c_Be_addInto (l : Launch) {D : va_G} {cI cB cR : ClassId} {ad : Nat → Nat} (w : St) (sz : Nat) {t0 tc s0 cnt : Nat} (h1 : t0 + tc ≤ 28672) (h2 : s0 + cnt ≤ 28672) (hcn : cnt ≤ tc) (hd : s0 + cnt ≤ t0 ∨ t0 + cnt ≤ s0) : Met l y_Be_addInto (q_Be_addInto :: wA) { frames := 0, cells := 0, slots := 0, locals := 0 } (va_Pc [.ref (ad 2), .int (nI (t0)), .int (nI (tc)), .int (nI (s0)), .int (nI (cnt))] (PW D cI cB cR ad w sz)) (va_Qi (fun (r : Int32) (w1 : St) => ∃ (f : Nat → Int32) (cy : Nat), w1 = pR w f ∧ r = nI cy ∧ cy ≤ 1 ∧ so f (sR w) t0 tc ∧ vN f t0 tc + cy * 4294967296 ^ tc = vN (sR w) t0 tc + vN (sR w) s0 cnt) (BW D cI cB cR ad) (AA ad sz)) 0 0 (AA ad sz) := by
  refine Met.ofW (cc := b_Be_addInto) (maxL := 11) (ret := (some (.int))) (by decide) rfl ?_
  intro p e s m args below meth c s₁ B hml hv
  obtain ⟨rfl, hsz, hP, hD0, hKW⟩ := hv
  have hx := B.exec
  have hb := B.bytes
  have hr := B.returns
  have hts := atoms_spec (ws := q_Be_addInto :: wA) B.pre
  have hown : s.vm.findClass R_Be = some m.cls := findClass_of_methodNamed B.named
  have hlocks := B.notSynchronized
  subst hsz
  have hD := NC_AA (sz := s.heap.size) hD0
  have hS : va_S (AA ad s.heap.size) s.heap s.heap [] := va_S.rf
  have hl := lv_entry ([.ref (ad 2), .int (nI (t0)), .int (nI (tc)), .int (nI (s0)), .int (nI (cnt))]) (n := 11) (Nat.le_of_ble_eq_true rfl)
  rw [lg_entry_eq]
  generalize (lg_sl ([.ref (ad 2), .int (nI (t0)), .int (nI (tc)), .int (nI (s0)), .int (nI (cnt))]) ++ List.replicate (11 - (lg_sl ([.ref (ad 2), .int (nI (t0)), .int (nI (tc)), .int (nI (s0)), .int (nI (cnt))])).length) Slot.unset).toArray = ls at hl ⊢
  have hl : lv_has ls 11 [(0, .ref (ad 2)), (1, .int (nI (t0))), (2, .int (nI (tc))), (3, .int (nI (s0))), (4, .int (nI (cnt)))] := hl
  refine lv_aload_n hx hb d_Be_addInto_0 rfl (lv_at hl 0 rfl) ?_
  refine nw_gR hx hb hts hown hKW.1 hP lf_Be_11 d_Be_addInto_1 ?_
  refine lv_astore (lv' := [(5, .ref (ad 3)), (0, .ref (ad 2)), (1, .int (nI (t0))), (2, .int (nI (tc))), (3, .int (nI (s0))), (4, .int (nI (cnt)))]) hx hb d_Be_addInto_4 hl (by decide) rfl (fun ls hl => ?_)
  refine lv_iload_n hx hb d_Be_addInto_6 rfl (lv_at hl 4 rfl) ?_
  refine lv_iload_n hx hb d_Be_addInto_7 rfl (lv_at hl 2 rfl) ?_
  refine nw_isub (v := nI s0 - nI t0) hx hb d_Be_addInto_8 rfl ?_
  refine lv_istore (lv' := [(6, .int (nI s0 - nI t0)), (5, .ref (ad 3)), (0, .ref (ad 2)), (1, .int (nI (t0))), (2, .int (nI (tc))), (3, .int (nI (s0))), (4, .int (nI (cnt)))]) hx hb d_Be_addInto_9 hl (by decide) rfl (fun ls hl => ?_)
  refine lv_iload_n hx hb d_Be_addInto_11 rfl (lv_at hl 3 rfl) ?_
  refine lv_iload hx hb d_Be_addInto_12 (lv_at hl 6 rfl) ?_
  refine nw_iadd (v := nI (t0 + cnt)) hx hb d_Be_addInto_14 (nI_add _ _) ?_
  refine lv_istore (lv' := [(7, .int (nI (t0 + cnt))), (6, .int (nI s0 - nI t0)), (5, .ref (ad 3)), (0, .ref (ad 2)), (1, .int (nI (t0))), (2, .int (nI (tc))), (3, .int (nI (s0))), (4, .int (nI (cnt)))]) hx hb d_Be_addInto_15 hl (by decide) rfl (fun ls hl => ?_)
  refine lv_lconst (v := lN (0)) hx hb d_Be_addInto_17 (by decide) ?_
  refine lv_lstore (lv' := [(8, .long (lN (0))), (7, .int (nI (t0 + cnt))), (6, .int (nI s0 - nI t0)), (5, .ref (ad 3)), (0, .ref (ad 2)), (1, .int (nI (t0))), (2, .int (nI (tc))), (3, .int (nI (s0))), (4, .int (nI (cnt)))]) hx hb d_Be_addInto_18 hl (by decide) rfl (fun ls hl => ?_)
  refine lv_iload_n hx hb d_Be_addInto_20 rfl (lv_at hl 5 rfl) ?_
  refine lv_istore (lv' := [(10, .int (nI (t0))), (8, .long (lN (0))), (7, .int (nI (t0 + cnt))), (6, .int (nI s0 - nI t0)), (5, .ref (ad 3)), (0, .ref (ad 2)), (1, .int (nI (t0))), (2, .int (nI (tc))), (3, .int (nI (s0))), (4, .int (nI (cnt)))]) hx hb d_Be_addInto_21 hl (by decide) rfl (fun ls hl => ?_)
  have loop2 : ∀ (n j : Nat) (f : Nat → Int32) (cy : Nat) (H : Heap) (locs : List Loc) (ls : Array Slot), j + n = tc → vN f t0 j + cy * 4294967296 ^ j = vN (sR w) t0 j + vN (sR w) s0 cnt → so f (sR w) t0 j → cy ≤ 1 → va_P D clA (NC cI cB cR ad (pR w f)) H → va_D (AA ad s.heap.size) (NC cI cB cR ad (pR w f)) → va_S (AA ad s.heap.size) s.heap H locs → lv_has ls 11 [(10, .int (nI (t0 + j))), (8, .long (lN (cy))), (7, .int (nI (t0 + cnt))), (6, .int (nI s0 - nI t0)), (5, .ref (ad 3)), (0, .ref (ad 2)), (1, .int (nI (t0))), (2, .int (nI (tc))), (3, .int (nI (s0))), (4, .int (nI (cnt)))] → W p l e (headSpec (q_Be_addInto :: wA) { frames := 0, cells := 0, slots := 0, locals := 0 }).room s m ([.ref (ad 2), .int (nI (t0)), .int (nI (tc)), .int (nI (s0)), .int (nI (cnt))] : List Value).toArray below meth c H locs 0 0 (MQ below (va_Qi (fun (r : Int32) (w1 : St) => ∃ (f : Nat → Int32) (cy : Nat), w1 = pR w f ∧ r = nI cy ∧ cy ≤ 1 ∧ so f (sR w) t0 tc ∧ vN f t0 tc + cy * 4294967296 ^ tc = vN (sR w) t0 tc + vN (sR w) s0 cnt) (BW D cI cB cR ad) (AA ad s.heap.size)) ([.ref (ad 2), .int (nI (t0)), .int (nI (tc)), .int (nI (s0)), .int (nI (cnt))] : List Value).toArray s 0 0 (AA ad s.heap.size)) (F0 m 84 ls []) := by
    intro n
    induction n with
    | zero =>
      intro j f cy H locs ls hj hinv hf hc hP hD hS hl
      refine lv_iload hx hb d_Be_addInto_84 (lv_at hl 0 rfl) ?_
      refine lv_iload_n hx hb d_Be_addInto_86 rfl (lv_at hl 6 rfl) ?_
      refine lv_iload_n hx hb d_Be_addInto_87 rfl (lv_at hl 7 rfl) ?_
      refine nw_iadd (v := nI (t0 + tc)) hx hb d_Be_addInto_88 (nI_add _ _) ?_
      refine lv_icmp_ge (tgt := 135) hx hb d_Be_addInto_89 (by decide) (fun c89 => ?_) (fun c89 => ?_)
      · skip
        have c89 : t0 + tc ≤ t0 + j := (nI_leI (by omega) (by omega)).mp c89
        have ej : j = tc := by omega
        subst ej
        refine lv_lload hx hb d_Be_addInto_135 (lv_at hl 1 rfl) ?_
        refine lv_l2i (v := nI (cy)) hx hb d_Be_addInto_137 (lN_i _) ?_
        exact W.iret (v := nI (cy)) hx hb hr (fun t ht hW => ⟨⟨_, pR w f, rfl, ⟨f, cy, rfl, rfl, hc, hf, hinv⟩, BW_of ht hP⟩, hS.F ht⟩) hS.2.2 d_Be_addInto_138
      · exact absurd (nI_le (by omega) (by omega)) c89
    | succ n ih =>
      intro j f cy H locs ls hj hinv hf hc hP hD hS hl
      have hy := wN_lt (sR w (t0 + j))
      refine lv_iload hx hb d_Be_addInto_84 (lv_at hl 0 rfl) ?_
      refine lv_iload_n hx hb d_Be_addInto_86 rfl (lv_at hl 6 rfl) ?_
      refine lv_iload_n hx hb d_Be_addInto_87 rfl (lv_at hl 7 rfl) ?_
      refine nw_iadd (v := nI (t0 + tc)) hx hb d_Be_addInto_88 (nI_add _ _) ?_
      refine lv_icmp_ge (tgt := 135) hx hb d_Be_addInto_89 (by decide) (fun c89 => ?_) (fun c89 => ?_)
      · exact absurd c89 (nI_ge (by omega) (by omega))
      · skip
        refine lv_lload hx hb d_Be_addInto_92 (lv_at hl 1 rfl) ?_
        refine lv_lconst (v := lN (0)) hx hb d_Be_addInto_94 (by decide) ?_
        refine W.lcmp hx hb d_Be_addInto_95 ?_
        refine lv_if_eq (tgt := 135) hx hb d_Be_addInto_96 (by decide) (fun c96 => ?_) (fun c96 => ?_)
        · skip
          have c96 : cy = 0 := (pk_lEQ (by omega) (by decide)).mp ((lg_cmp_eq _ _).mp c96)
          subst c96
          refine lv_lload hx hb d_Be_addInto_135 (lv_at hl 1 rfl) ?_
          refine lv_l2i (v := nI (0)) hx hb d_Be_addInto_137 (lN_i _) ?_
          exact W.iret (v := nI (0)) hx hb hr (fun t ht hW => ⟨⟨_, pR w f, rfl, ⟨f, 0, rfl, rfl, by omega, hf.wide (by omega), by rw [Nat.zero_mul]; exact vN_tailA (by omega) hf.ge (by omega)⟩, BW_of ht hP⟩, hS.F ht⟩) hS.2.2 d_Be_addInto_138
        · skip
          refine lv_lload hx hb d_Be_addInto_99 (lv_at hl 1 rfl) ?_
          refine lv_aload hx hb d_Be_addInto_101 (lv_at hl 4 rfl) ?_
          refine lv_iload hx hb d_Be_addInto_103 (lv_at hl 0 rfl) ?_
          refine nw_lR hx hb hKW.1 hP (j := t0 + j) (by omega) (x := sR w (t0 + j)) (hf _ (by omega)) d_Be_addInto_105 ?_
          refine lv_i2l (v := (sR w (t0 + j)).toInt64) hx hb d_Be_addInto_106 rfl ?_
          refine lv_ldc2 (v := 4294967295) hx hb hown (hA_ hts ll_Be_99) d_Be_addInto_107 ?_
          refine nw_land (v := lN (wN ((sR w (t0 + j))))) hx hb d_Be_addInto_110 (lw_low _) ?_
          refine nw_ladd (v := lN (cy + (wN ((sR w (t0 + j)))))) hx hb d_Be_addInto_111 (lN_add _ _) ?_
          refine lv_lstore (lv' := [(8, .long (lN (cy + (wN ((sR w (t0 + j))))))), (10, .int (nI (t0 + j))), (7, .int (nI (t0 + cnt))), (6, .int (nI s0 - nI t0)), (5, .ref (ad 3)), (0, .ref (ad 2)), (1, .int (nI (t0))), (2, .int (nI (tc))), (3, .int (nI (s0))), (4, .int (nI (cnt)))]) hx hb d_Be_addInto_112 hl (by decide) rfl (fun ls hl => ?_)
          refine lv_aload hx hb d_Be_addInto_114 (lv_at hl 4 rfl) ?_
          refine lv_iload hx hb d_Be_addInto_116 (lv_at hl 1 rfl) ?_
          refine lv_lload hx hb d_Be_addInto_118 (lv_at hl 0 rfl) ?_
          refine lv_l2i (v := nI (cy + (wN ((sR w (t0 + j)))))) hx hb d_Be_addInto_120 (lN_i _) ?_
          refine nw_sR hx hb hKW.1 hP hD hS (j := t0 + j) (by omega) d_Be_addInto_121 (fun H locs hP hD hS => ?_)
          refine lv_lload hx hb d_Be_addInto_122 (lv_at hl 0 rfl) ?_
          refine lv_bipush (v := nI (32)) hx hb d_Be_addInto_124 (by decide) ?_
          refine lv_lushr (v := lN ((cy + (wN ((sR w (t0 + j))))) / 4294967296)) hx hb d_Be_addInto_126 (lN_shr32 (by omega)) ?_
          refine lv_lstore (lv' := [(8, .long (lN ((cy + (wN ((sR w (t0 + j))))) / 4294967296))), (10, .int (nI (t0 + j))), (7, .int (nI (t0 + cnt))), (6, .int (nI s0 - nI t0)), (5, .ref (ad 3)), (0, .ref (ad 2)), (1, .int (nI (t0))), (2, .int (nI (tc))), (3, .int (nI (s0))), (4, .int (nI (cnt)))]) hx hb d_Be_addInto_127 hl (by decide) rfl (fun ls hl => ?_)
          refine lv_iinc (v := nI (t0 + j + 1)) (lv' := [(10, .int (nI (t0 + j + 1))), (8, .long (lN ((cy + (wN ((sR w (t0 + j))))) / 4294967296))), (7, .int (nI (t0 + cnt))), (6, .int (nI s0 - nI t0)), (5, .ref (ad 3)), (0, .ref (ad 2)), (1, .int (nI (t0))), (2, .int (nI (tc))), (3, .int (nI (s0))), (4, .int (nI (cnt)))]) hx hb d_Be_addInto_129 hl (k := 1) rfl (nI_add _ 1) (by decide) rfl (fun ls hl => ?_)
          refine lv_goto (tgt := 84) hx hb d_Be_addInto_132 (by decide) ?_
          exact ih (j + 1) (upd f (t0 + j) (nI (cy + wN (sR w (t0 + j))))) ((cy + wN (sR w (t0 + j))) / 4294967296) H locs ls (by omega) (ai_step2 hinv) (so_upd hf) (by omega) hP hD hS (lv_sub hl [0, 1, 2, 3, 4, 5, 6, 7, 8, 9] rfl)
  have loop1 : ∀ (n j : Nat) (f : Nat → Int32) (cy : Nat) (H : Heap) (locs : List Loc) (ls : Array Slot), j + n = cnt → vN f t0 j + cy * 4294967296 ^ j = vN (sR w) t0 j + vN (sR w) s0 j → so f (sR w) t0 j → cy ≤ 1 → va_P D clA (NC cI cB cR ad (pR w f)) H → va_D (AA ad s.heap.size) (NC cI cB cR ad (pR w f)) → va_S (AA ad s.heap.size) s.heap H locs → lv_has ls 11 [(10, .int (nI (t0 + j))), (8, .long (lN (cy))), (7, .int (nI (t0 + cnt))), (6, .int (nI s0 - nI t0)), (5, .ref (ad 3)), (0, .ref (ad 2)), (1, .int (nI (t0))), (2, .int (nI (tc))), (3, .int (nI (s0))), (4, .int (nI (cnt)))] → W p l e (headSpec (q_Be_addInto :: wA) { frames := 0, cells := 0, slots := 0, locals := 0 }).room s m ([.ref (ad 2), .int (nI (t0)), .int (nI (tc)), .int (nI (s0)), .int (nI (cnt))] : List Value).toArray below meth c H locs 0 0 (MQ below (va_Qi (fun (r : Int32) (w1 : St) => ∃ (f : Nat → Int32) (cy : Nat), w1 = pR w f ∧ r = nI cy ∧ cy ≤ 1 ∧ so f (sR w) t0 tc ∧ vN f t0 tc + cy * 4294967296 ^ tc = vN (sR w) t0 tc + vN (sR w) s0 cnt) (BW D cI cB cR ad) (AA ad s.heap.size)) ([.ref (ad 2), .int (nI (t0)), .int (nI (tc)), .int (nI (s0)), .int (nI (cnt))] : List Value).toArray s 0 0 (AA ad s.heap.size)) (F0 m 23 ls []) := by
    intro n
    induction n with
    | zero =>
      intro j f cy H locs ls hj hinv hf hc hP hD hS hl
      refine lv_iload hx hb d_Be_addInto_23 (lv_at hl 0 rfl) ?_
      refine lv_iload hx hb d_Be_addInto_25 (lv_at hl 2 rfl) ?_
      refine lv_icmp_ge (tgt := 80) hx hb d_Be_addInto_27 (by decide) (fun c27 => ?_) (fun c27 => ?_)
      · skip
        have c27 : t0 + cnt ≤ t0 + j := (nI_leI (by omega) (by omega)).mp c27
        have ej : cnt = j := by omega
        subst ej
        refine lv_iload hx hb d_Be_addInto_80 (lv_at hl 2 rfl) ?_
        refine lv_istore (lv' := [(10, .int (nI (t0 + cnt))), (8, .long (lN (cy))), (7, .int (nI (t0 + cnt))), (6, .int (nI s0 - nI t0)), (5, .ref (ad 3)), (0, .ref (ad 2)), (1, .int (nI (t0))), (2, .int (nI (tc))), (3, .int (nI (s0))), (4, .int (nI (cnt)))]) hx hb d_Be_addInto_82 hl (by decide) rfl (fun ls hl => ?_)
        exact loop2 (tc - cnt) cnt f cy H locs ls (by omega) hinv hf hc hP hD hS (lv_sub hl [0, 1, 2, 3, 4, 5, 6, 7, 8, 9] rfl)
      · exact absurd (nI_le (by omega) (by omega)) c27
    | succ n ih =>
      intro j f cy H locs ls hj hinv hf hc hP hD hS hl
      have hy := wN_lt (sR w (t0 + j))
      have hz := wN_lt (sR w (s0 + j))
      refine lv_iload hx hb d_Be_addInto_23 (lv_at hl 0 rfl) ?_
      refine lv_iload hx hb d_Be_addInto_25 (lv_at hl 2 rfl) ?_
      refine lv_icmp_ge (tgt := 80) hx hb d_Be_addInto_27 (by decide) (fun c27 => ?_) (fun c27 => ?_)
      · exact absurd c27 (nI_ge (by omega) (by omega))
      · skip
        refine lv_lload hx hb d_Be_addInto_30 (lv_at hl 1 rfl) ?_
        refine lv_aload hx hb d_Be_addInto_32 (lv_at hl 4 rfl) ?_
        refine lv_iload hx hb d_Be_addInto_34 (lv_at hl 0 rfl) ?_
        refine nw_lR hx hb hKW.1 hP (j := t0 + j) (by omega) (x := sR w (t0 + j)) (hf _ (by omega)) d_Be_addInto_36 ?_
        refine lv_i2l (v := (sR w (t0 + j)).toInt64) hx hb d_Be_addInto_37 rfl ?_
        refine lv_ldc2 (v := 4294967295) hx hb hown (hA_ hts ll_Be_99) d_Be_addInto_38 ?_
        refine nw_land (v := lN (wN ((sR w (t0 + j))))) hx hb d_Be_addInto_41 (lw_low _) ?_
        refine lv_aload hx hb d_Be_addInto_42 (lv_at hl 4 rfl) ?_
        refine lv_iload hx hb d_Be_addInto_44 (lv_at hl 0 rfl) ?_
        refine lv_iload hx hb d_Be_addInto_46 (lv_at hl 3 rfl) ?_
        refine nw_iadd (v := nI (s0 + j)) hx hb d_Be_addInto_48 (ix_sh _ _ _) ?_
        refine nw_lR hx hb hKW.1 hP (j := s0 + j) (by omega) (x := sR w (s0 + j)) (hf _ (by omega)) d_Be_addInto_49 ?_
        refine lv_i2l (v := (sR w (s0 + j)).toInt64) hx hb d_Be_addInto_50 rfl ?_
        refine lv_ldc2 (v := 4294967295) hx hb hown (hA_ hts ll_Be_99) d_Be_addInto_51 ?_
        refine nw_land (v := lN (wN ((sR w (s0 + j))))) hx hb d_Be_addInto_54 (lw_low _) ?_
        refine nw_ladd (v := lN (wN ((sR w (t0 + j))) + (wN ((sR w (s0 + j)))))) hx hb d_Be_addInto_55 (lN_add _ _) ?_
        refine nw_ladd (v := lN (cy + (wN ((sR w (t0 + j))) + (wN ((sR w (s0 + j))))))) hx hb d_Be_addInto_56 (lN_add _ _) ?_
        refine lv_lstore (lv' := [(8, .long (lN (cy + (wN ((sR w (t0 + j))) + (wN ((sR w (s0 + j)))))))), (10, .int (nI (t0 + j))), (7, .int (nI (t0 + cnt))), (6, .int (nI s0 - nI t0)), (5, .ref (ad 3)), (0, .ref (ad 2)), (1, .int (nI (t0))), (2, .int (nI (tc))), (3, .int (nI (s0))), (4, .int (nI (cnt)))]) hx hb d_Be_addInto_57 hl (by decide) rfl (fun ls hl => ?_)
        refine lv_aload hx hb d_Be_addInto_59 (lv_at hl 4 rfl) ?_
        refine lv_iload hx hb d_Be_addInto_61 (lv_at hl 1 rfl) ?_
        refine lv_lload hx hb d_Be_addInto_63 (lv_at hl 0 rfl) ?_
        refine lv_l2i (v := nI (cy + (wN ((sR w (t0 + j))) + (wN ((sR w (s0 + j))))))) hx hb d_Be_addInto_65 (lN_i _) ?_
        refine nw_sR hx hb hKW.1 hP hD hS (j := t0 + j) (by omega) d_Be_addInto_66 (fun H locs hP hD hS => ?_)
        refine lv_lload hx hb d_Be_addInto_67 (lv_at hl 0 rfl) ?_
        refine lv_bipush (v := nI (32)) hx hb d_Be_addInto_69 (by decide) ?_
        refine lv_lushr (v := lN ((cy + (wN ((sR w (t0 + j))) + (wN ((sR w (s0 + j)))))) / 4294967296)) hx hb d_Be_addInto_71 (lN_shr32 (by omega)) ?_
        refine lv_lstore (lv' := [(8, .long (lN ((cy + (wN ((sR w (t0 + j))) + (wN ((sR w (s0 + j)))))) / 4294967296))), (10, .int (nI (t0 + j))), (7, .int (nI (t0 + cnt))), (6, .int (nI s0 - nI t0)), (5, .ref (ad 3)), (0, .ref (ad 2)), (1, .int (nI (t0))), (2, .int (nI (tc))), (3, .int (nI (s0))), (4, .int (nI (cnt)))]) hx hb d_Be_addInto_72 hl (by decide) rfl (fun ls hl => ?_)
        refine lv_iinc (v := nI (t0 + j + 1)) (lv' := [(10, .int (nI (t0 + j + 1))), (8, .long (lN ((cy + (wN ((sR w (t0 + j))) + (wN ((sR w (s0 + j)))))) / 4294967296))), (7, .int (nI (t0 + cnt))), (6, .int (nI s0 - nI t0)), (5, .ref (ad 3)), (0, .ref (ad 2)), (1, .int (nI (t0))), (2, .int (nI (tc))), (3, .int (nI (s0))), (4, .int (nI (cnt)))]) hx hb d_Be_addInto_74 hl (k := 1) rfl (nI_add _ 1) (by decide) rfl (fun ls hl => ?_)
        refine lv_goto (tgt := 23) hx hb d_Be_addInto_77 (by decide) ?_
        exact ih (j + 1) (upd f (t0 + j) (nI (cy + (wN (sR w (t0 + j)) + wN (sR w (s0 + j)))))) ((cy + (wN (sR w (t0 + j)) + wN (sR w (s0 + j)))) / 4294967296) H locs ls (by omega) (ai_step hinv) (so_upd hf) (by omega) hP hD hS (lv_sub hl [0, 1, 2, 3, 4, 5, 6, 7, 8, 9] rfl)
  exact loop1 cnt 0 (sR w) 0 _ _ ls (by omega) (by show 0 + 0 * 4294967296 ^ 0 = 0 + 0; omega) (so_refl _ _ _) (by omega) hP hD hS (lv_sub hl [0, 1, 2, 3, 4, 5, 6, 7, 8, 9] rfl)
set_option maxHeartbeats 4000000 in
set_option maxRecDepth 100000 in
/-- takeFrom(at, atCount, from, count) -/
theorem c_Be_takeFrom (l : Launch) {D : va_G} {cI cB cR : ClassId} {ad : Nat → Nat} (w : St) (sz : Nat) {t0 tc s0 cnt : Nat} (h1 : t0 + tc ≤ 28672) (h2 : s0 + cnt ≤ 28672) (hcn : cnt ≤ tc) (hd : s0 + cnt ≤ t0 ∨ t0 + cnt ≤ s0) : Met l y_Be_takeFrom (q_Be_takeFrom :: wA) { frames := 0, cells := 0, slots := 0, locals := 0 } (va_Pc [.ref (ad 2), .int (nI (t0)), .int (nI (tc)), .int (nI (s0)), .int (nI (cnt))] (PW D cI cB cR ad w sz)) (va_Qi (fun (r : Int32) (w1 : St) => ∃ (f : Nat → Int32) (o : Nat), w1 = pR w f ∧ r = nI o ∧ o ≤ 1 ∧ so f (sR w) t0 tc ∧ vN f t0 tc + vN (sR w) s0 cnt = vN (sR w) t0 tc + o * 4294967296 ^ tc) (BW D cI cB cR ad) (AA ad sz)) 0 0 (AA ad sz) := by
  refine Met.ofW (cc := b_Be_takeFrom) (maxL := 11) (ret := (some (.int))) (by decide) rfl ?_
  intro p e s m args below meth c s₁ B hml hv
  obtain ⟨rfl, hsz, hP, hD0, hKW⟩ := hv
  have hx := B.exec
  have hb := B.bytes
  have hr := B.returns
  have hts := atoms_spec (ws := q_Be_takeFrom :: wA) B.pre
  have hown : s.vm.findClass R_Be = some m.cls := findClass_of_methodNamed B.named
  have hlocks := B.notSynchronized
  subst hsz
  have hD := NC_AA (sz := s.heap.size) hD0
  have hS : va_S (AA ad s.heap.size) s.heap s.heap [] := va_S.rf
  have hl := lv_entry ([.ref (ad 2), .int (nI (t0)), .int (nI (tc)), .int (nI (s0)), .int (nI (cnt))]) (n := 11) (Nat.le_of_ble_eq_true rfl)
  rw [lg_entry_eq]
  generalize (lg_sl ([.ref (ad 2), .int (nI (t0)), .int (nI (tc)), .int (nI (s0)), .int (nI (cnt))]) ++ List.replicate (11 - (lg_sl ([.ref (ad 2), .int (nI (t0)), .int (nI (tc)), .int (nI (s0)), .int (nI (cnt))])).length) Slot.unset).toArray = ls at hl ⊢
  have hl : lv_has ls 11 [(0, .ref (ad 2)), (1, .int (nI (t0))), (2, .int (nI (tc))), (3, .int (nI (s0))), (4, .int (nI (cnt)))] := hl
  refine lv_aload_n hx hb d_Be_takeFrom_0 rfl (lv_at hl 0 rfl) ?_
  refine nw_gR hx hb hts hown hKW.1 hP lf_Be_11 d_Be_takeFrom_1 ?_
  refine lv_astore (lv' := [(5, .ref (ad 3)), (0, .ref (ad 2)), (1, .int (nI (t0))), (2, .int (nI (tc))), (3, .int (nI (s0))), (4, .int (nI (cnt)))]) hx hb d_Be_takeFrom_4 hl (by decide) rfl (fun ls hl => ?_)
  refine lv_iload_n hx hb d_Be_takeFrom_6 rfl (lv_at hl 4 rfl) ?_
  refine lv_iload_n hx hb d_Be_takeFrom_7 rfl (lv_at hl 2 rfl) ?_
  refine nw_isub (v := nI s0 - nI t0) hx hb d_Be_takeFrom_8 rfl ?_
  refine lv_istore (lv' := [(6, .int (nI s0 - nI t0)), (5, .ref (ad 3)), (0, .ref (ad 2)), (1, .int (nI (t0))), (2, .int (nI (tc))), (3, .int (nI (s0))), (4, .int (nI (cnt)))]) hx hb d_Be_takeFrom_9 hl (by decide) rfl (fun ls hl => ?_)
  refine lv_iload_n hx hb d_Be_takeFrom_11 rfl (lv_at hl 3 rfl) ?_
  refine lv_iload hx hb d_Be_takeFrom_12 (lv_at hl 6 rfl) ?_
  refine nw_iadd (v := nI (t0 + cnt)) hx hb d_Be_takeFrom_14 (nI_add _ _) ?_
  refine lv_istore (lv' := [(7, .int (nI (t0 + cnt))), (6, .int (nI s0 - nI t0)), (5, .ref (ad 3)), (0, .ref (ad 2)), (1, .int (nI (t0))), (2, .int (nI (tc))), (3, .int (nI (s0))), (4, .int (nI (cnt)))]) hx hb d_Be_takeFrom_15 hl (by decide) rfl (fun ls hl => ?_)
  refine lv_lconst (v := lN (0)) hx hb d_Be_takeFrom_17 (by decide) ?_
  refine lv_lstore (lv' := [(8, .long (lN (0))), (7, .int (nI (t0 + cnt))), (6, .int (nI s0 - nI t0)), (5, .ref (ad 3)), (0, .ref (ad 2)), (1, .int (nI (t0))), (2, .int (nI (tc))), (3, .int (nI (s0))), (4, .int (nI (cnt)))]) hx hb d_Be_takeFrom_18 hl (by decide) rfl (fun ls hl => ?_)
  refine lv_iload_n hx hb d_Be_takeFrom_20 rfl (lv_at hl 5 rfl) ?_
  refine lv_istore (lv' := [(10, .int (nI (t0))), (8, .long (lN (0))), (7, .int (nI (t0 + cnt))), (6, .int (nI s0 - nI t0)), (5, .ref (ad 3)), (0, .ref (ad 2)), (1, .int (nI (t0))), (2, .int (nI (tc))), (3, .int (nI (s0))), (4, .int (nI (cnt)))]) hx hb d_Be_takeFrom_21 hl (by decide) rfl (fun ls hl => ?_)
  have loop2 : ∀ (n j : Nat) (f : Nat → Int32) (o : Int) (H : Heap) (locs : List Loc) (ls : Array Slot), j + n = tc → ((vN f t0 j : Nat) : Int) + o * 4294967296 ^ j = ((vN (sR w) t0 j : Nat) : Int) - ((vN (sR w) s0 cnt : Nat) : Int) → so f (sR w) t0 j → (o = 0 ∨ o = -1) → va_P D clA (NC cI cB cR ad (pR w f)) H → va_D (AA ad s.heap.size) (NC cI cB cR ad (pR w f)) → va_S (AA ad s.heap.size) s.heap H locs → lv_has ls 11 [(10, .int (nI (t0 + j))), (8, .long (lZ (o))), (7, .int (nI (t0 + cnt))), (6, .int (nI s0 - nI t0)), (5, .ref (ad 3)), (0, .ref (ad 2)), (1, .int (nI (t0))), (2, .int (nI (tc))), (3, .int (nI (s0))), (4, .int (nI (cnt)))] → W p l e (headSpec (q_Be_takeFrom :: wA) { frames := 0, cells := 0, slots := 0, locals := 0 }).room s m ([.ref (ad 2), .int (nI (t0)), .int (nI (tc)), .int (nI (s0)), .int (nI (cnt))] : List Value).toArray below meth c H locs 0 0 (MQ below (va_Qi (fun (r : Int32) (w1 : St) => ∃ (f : Nat → Int32) (o : Nat), w1 = pR w f ∧ r = nI o ∧ o ≤ 1 ∧ so f (sR w) t0 tc ∧ vN f t0 tc + vN (sR w) s0 cnt = vN (sR w) t0 tc + o * 4294967296 ^ tc) (BW D cI cB cR ad) (AA ad s.heap.size)) ([.ref (ad 2), .int (nI (t0)), .int (nI (tc)), .int (nI (s0)), .int (nI (cnt))] : List Value).toArray s 0 0 (AA ad s.heap.size)) (F0 m 84 ls []) := by
    intro n
    induction n with
    | zero =>
      intro j f o H locs ls hj hinv hf hc hP hD hS hl
      refine lv_iload hx hb d_Be_takeFrom_84 (lv_at hl 0 rfl) ?_
      refine lv_iload_n hx hb d_Be_takeFrom_86 rfl (lv_at hl 6 rfl) ?_
      refine lv_iload_n hx hb d_Be_takeFrom_87 rfl (lv_at hl 7 rfl) ?_
      refine nw_iadd (v := nI (t0 + tc)) hx hb d_Be_takeFrom_88 (nI_add _ _) ?_
      refine lv_icmp_ge (tgt := 135) hx hb d_Be_takeFrom_89 (by decide) (fun c89 => ?_) (fun c89 => ?_)
      · skip
        have c89 : t0 + tc ≤ t0 + j := (nI_leI (by omega) (by omega)).mp c89
        have ej : j = tc := by omega
        subst ej
        refine lv_lload hx hb d_Be_takeFrom_135 (lv_at hl 1 rfl) ?_
        refine nw_lneg (v := -(lZ (o))) hx hb d_Be_takeFrom_137 rfl ?_
        refine lv_l2i (v := nI (ow o)) hx hb d_Be_takeFrom_138 (ow_neg hc) ?_
        exact W.iret (v := nI (ow o)) hx hb hr (fun t ht hW => ⟨⟨_, pR w f, rfl, ⟨f, ow o, rfl, rfl, ow_le o, hf, ow_end hc hinv⟩, BW_of ht hP⟩, hS.F ht⟩) hS.2.2 d_Be_takeFrom_139
      · exact absurd (nI_le (by omega) (by omega)) c89
    | succ n ih =>
      intro j f o H locs ls hj hinv hf hc hP hD hS hl
      have hy := wN_lt (sR w (t0 + j))
      refine lv_iload hx hb d_Be_takeFrom_84 (lv_at hl 0 rfl) ?_
      refine lv_iload_n hx hb d_Be_takeFrom_86 rfl (lv_at hl 6 rfl) ?_
      refine lv_iload_n hx hb d_Be_takeFrom_87 rfl (lv_at hl 7 rfl) ?_
      refine nw_iadd (v := nI (t0 + tc)) hx hb d_Be_takeFrom_88 (nI_add _ _) ?_
      refine lv_icmp_ge (tgt := 135) hx hb d_Be_takeFrom_89 (by decide) (fun c89 => ?_) (fun c89 => ?_)
      · exact absurd c89 (nI_ge (by omega) (by omega))
      · skip
        refine lv_lload hx hb d_Be_takeFrom_92 (lv_at hl 1 rfl) ?_
        refine lv_lconst (v := lN (0)) hx hb d_Be_takeFrom_94 (by decide) ?_
        refine W.lcmp hx hb d_Be_takeFrom_95 ?_
        refine lv_if_eq (tgt := 135) hx hb d_Be_takeFrom_96 (by decide) (fun c96 => ?_) (fun c96 => ?_)
        · skip
          have c96 : o = 0 := ow_ne hc ((lg_cmp_eq _ _).mp c96)
          subst c96
          refine lv_lload hx hb d_Be_takeFrom_135 (lv_at hl 1 rfl) ?_
          refine nw_lneg (v := -(lZ (0))) hx hb d_Be_takeFrom_137 rfl ?_
          refine lv_l2i (v := nI (ow 0)) hx hb d_Be_takeFrom_138 (ow_neg hc) ?_
          exact W.iret (v := nI (ow 0)) hx hb hr (fun t ht hW => ⟨⟨_, pR w f, rfl, ⟨f, 0, rfl, rfl, by omega, hf.wide (by omega), by rw [Nat.zero_mul]; exact ow_tail (by omega) hf hinv⟩, BW_of ht hP⟩, hS.F ht⟩) hS.2.2 d_Be_takeFrom_139
        · skip
          refine lv_lload hx hb d_Be_takeFrom_99 (lv_at hl 1 rfl) ?_
          refine lv_aload hx hb d_Be_takeFrom_101 (lv_at hl 4 rfl) ?_
          refine lv_iload hx hb d_Be_takeFrom_103 (lv_at hl 0 rfl) ?_
          refine nw_lR hx hb hKW.1 hP (j := t0 + j) (by omega) (x := sR w (t0 + j)) (hf _ (by omega)) d_Be_takeFrom_105 ?_
          refine lv_i2l (v := (sR w (t0 + j)).toInt64) hx hb d_Be_takeFrom_106 rfl ?_
          refine lv_ldc2 (v := 4294967295) hx hb hown (hA_ hts ll_Be_99) d_Be_takeFrom_107 ?_
          refine nw_land (v := lN (wN ((sR w (t0 + j))))) hx hb d_Be_takeFrom_110 (lw_low _) ?_
          refine nw_ladd (v := lZ (o + ((wN (sR w (t0 + j)) : Nat) : Int))) hx hb d_Be_takeFrom_111 (lZ_addN _ _) ?_
          refine lv_lstore (lv' := [(8, .long (lZ (o + ((wN (sR w (t0 + j)) : Nat) : Int)))), (10, .int (nI (t0 + j))), (7, .int (nI (t0 + cnt))), (6, .int (nI s0 - nI t0)), (5, .ref (ad 3)), (0, .ref (ad 2)), (1, .int (nI (t0))), (2, .int (nI (tc))), (3, .int (nI (s0))), (4, .int (nI (cnt)))]) hx hb d_Be_takeFrom_112 hl (by decide) rfl (fun ls hl => ?_)
          refine lv_aload hx hb d_Be_takeFrom_114 (lv_at hl 4 rfl) ?_
          refine lv_iload hx hb d_Be_takeFrom_116 (lv_at hl 1 rfl) ?_
          refine lv_lload hx hb d_Be_takeFrom_118 (lv_at hl 0 rfl) ?_
          refine lv_l2i (v := (lZ (o + ((wN (sR w (t0 + j)) : Nat) : Int))).toInt32) hx hb d_Be_takeFrom_120 rfl ?_
          refine nw_sR hx hb hKW.1 hP hD hS (j := t0 + j) (by omega) d_Be_takeFrom_121 (fun H locs hP hD hS => ?_)
          refine lv_lload hx hb d_Be_takeFrom_122 (lv_at hl 0 rfl) ?_
          refine lv_bipush (v := nI (32)) hx hb d_Be_takeFrom_124 (by decide) ?_
          refine lv_lshr (v := lZ ((o + ((wN (sR w (t0 + j)) : Nat) : Int)) / 4294967296)) hx hb d_Be_takeFrom_126 (lZ_shr (by omega) (by omega)) ?_
          refine lv_lstore (lv' := [(8, .long (lZ ((o + ((wN (sR w (t0 + j)) : Nat) : Int)) / 4294967296))), (10, .int (nI (t0 + j))), (7, .int (nI (t0 + cnt))), (6, .int (nI s0 - nI t0)), (5, .ref (ad 3)), (0, .ref (ad 2)), (1, .int (nI (t0))), (2, .int (nI (tc))), (3, .int (nI (s0))), (4, .int (nI (cnt)))]) hx hb d_Be_takeFrom_127 hl (by decide) rfl (fun ls hl => ?_)
          refine lv_iinc (v := nI (t0 + j + 1)) (lv' := [(10, .int (nI (t0 + j + 1))), (8, .long (lZ ((o + ((wN (sR w (t0 + j)) : Nat) : Int)) / 4294967296))), (7, .int (nI (t0 + cnt))), (6, .int (nI s0 - nI t0)), (5, .ref (ad 3)), (0, .ref (ad 2)), (1, .int (nI (t0))), (2, .int (nI (tc))), (3, .int (nI (s0))), (4, .int (nI (cnt)))]) hx hb d_Be_takeFrom_129 hl (k := 1) rfl (nI_add _ 1) (by decide) rfl (fun ls hl => ?_)
          refine lv_goto (tgt := 84) hx hb d_Be_takeFrom_132 (by decide) ?_
          exact ih (j + 1) (upd f (t0 + j) (lZ (o + ((wN (sR w (t0 + j)) : Nat) : Int))).toInt32) ((o + ((wN (sR w (t0 + j)) : Nat) : Int)) / 4294967296) H locs ls (by omega) (tf_step2 hinv) (so_upd hf) (by omega) hP hD hS (lv_sub hl [0, 1, 2, 3, 4, 5, 6, 7, 8, 9] rfl)
  have loop1 : ∀ (n j : Nat) (f : Nat → Int32) (o : Int) (H : Heap) (locs : List Loc) (ls : Array Slot), j + n = cnt → ((vN f t0 j : Nat) : Int) + o * 4294967296 ^ j = ((vN (sR w) t0 j : Nat) : Int) - ((vN (sR w) s0 j : Nat) : Int) → so f (sR w) t0 j → (o = 0 ∨ o = -1) → va_P D clA (NC cI cB cR ad (pR w f)) H → va_D (AA ad s.heap.size) (NC cI cB cR ad (pR w f)) → va_S (AA ad s.heap.size) s.heap H locs → lv_has ls 11 [(10, .int (nI (t0 + j))), (8, .long (lZ (o))), (7, .int (nI (t0 + cnt))), (6, .int (nI s0 - nI t0)), (5, .ref (ad 3)), (0, .ref (ad 2)), (1, .int (nI (t0))), (2, .int (nI (tc))), (3, .int (nI (s0))), (4, .int (nI (cnt)))] → W p l e (headSpec (q_Be_takeFrom :: wA) { frames := 0, cells := 0, slots := 0, locals := 0 }).room s m ([.ref (ad 2), .int (nI (t0)), .int (nI (tc)), .int (nI (s0)), .int (nI (cnt))] : List Value).toArray below meth c H locs 0 0 (MQ below (va_Qi (fun (r : Int32) (w1 : St) => ∃ (f : Nat → Int32) (o : Nat), w1 = pR w f ∧ r = nI o ∧ o ≤ 1 ∧ so f (sR w) t0 tc ∧ vN f t0 tc + vN (sR w) s0 cnt = vN (sR w) t0 tc + o * 4294967296 ^ tc) (BW D cI cB cR ad) (AA ad s.heap.size)) ([.ref (ad 2), .int (nI (t0)), .int (nI (tc)), .int (nI (s0)), .int (nI (cnt))] : List Value).toArray s 0 0 (AA ad s.heap.size)) (F0 m 23 ls []) := by
    intro n
    induction n with
    | zero =>
      intro j f o H locs ls hj hinv hf hc hP hD hS hl
      refine lv_iload hx hb d_Be_takeFrom_23 (lv_at hl 0 rfl) ?_
      refine lv_iload hx hb d_Be_takeFrom_25 (lv_at hl 2 rfl) ?_
      refine lv_icmp_ge (tgt := 80) hx hb d_Be_takeFrom_27 (by decide) (fun c27 => ?_) (fun c27 => ?_)
      · skip
        have c27 : t0 + cnt ≤ t0 + j := (nI_leI (by omega) (by omega)).mp c27
        have ej : cnt = j := by omega
        subst ej
        refine lv_iload hx hb d_Be_takeFrom_80 (lv_at hl 2 rfl) ?_
        refine lv_istore (lv' := [(10, .int (nI (t0 + cnt))), (8, .long (lZ (o))), (7, .int (nI (t0 + cnt))), (6, .int (nI s0 - nI t0)), (5, .ref (ad 3)), (0, .ref (ad 2)), (1, .int (nI (t0))), (2, .int (nI (tc))), (3, .int (nI (s0))), (4, .int (nI (cnt)))]) hx hb d_Be_takeFrom_82 hl (by decide) rfl (fun ls hl => ?_)
        exact loop2 (tc - cnt) cnt f o H locs ls (by omega) hinv hf hc hP hD hS (lv_sub hl [0, 1, 2, 3, 4, 5, 6, 7, 8, 9] rfl)
      · exact absurd (nI_le (by omega) (by omega)) c27
    | succ n ih =>
      intro j f o H locs ls hj hinv hf hc hP hD hS hl
      have hy := wN_lt (sR w (t0 + j))
      have hz := wN_lt (sR w (s0 + j))
      refine lv_iload hx hb d_Be_takeFrom_23 (lv_at hl 0 rfl) ?_
      refine lv_iload hx hb d_Be_takeFrom_25 (lv_at hl 2 rfl) ?_
      refine lv_icmp_ge (tgt := 80) hx hb d_Be_takeFrom_27 (by decide) (fun c27 => ?_) (fun c27 => ?_)
      · exact absurd c27 (nI_ge (by omega) (by omega))
      · skip
        refine lv_lload hx hb d_Be_takeFrom_30 (lv_at hl 1 rfl) ?_
        refine lv_aload hx hb d_Be_takeFrom_32 (lv_at hl 4 rfl) ?_
        refine lv_iload hx hb d_Be_takeFrom_34 (lv_at hl 0 rfl) ?_
        refine nw_lR hx hb hKW.1 hP (j := t0 + j) (by omega) (x := sR w (t0 + j)) (hf _ (by omega)) d_Be_takeFrom_36 ?_
        refine lv_i2l (v := (sR w (t0 + j)).toInt64) hx hb d_Be_takeFrom_37 rfl ?_
        refine lv_ldc2 (v := 4294967295) hx hb hown (hA_ hts ll_Be_99) d_Be_takeFrom_38 ?_
        refine nw_land (v := lN (wN ((sR w (t0 + j))))) hx hb d_Be_takeFrom_41 (lw_low _) ?_
        refine lv_aload hx hb d_Be_takeFrom_42 (lv_at hl 4 rfl) ?_
        refine lv_iload hx hb d_Be_takeFrom_44 (lv_at hl 0 rfl) ?_
        refine lv_iload hx hb d_Be_takeFrom_46 (lv_at hl 3 rfl) ?_
        refine nw_iadd (v := nI (s0 + j)) hx hb d_Be_takeFrom_48 (ix_sh _ _ _) ?_
        refine nw_lR hx hb hKW.1 hP (j := s0 + j) (by omega) (x := sR w (s0 + j)) (hf _ (by omega)) d_Be_takeFrom_49 ?_
        refine lv_i2l (v := (sR w (s0 + j)).toInt64) hx hb d_Be_takeFrom_50 rfl ?_
        refine lv_ldc2 (v := 4294967295) hx hb hown (hA_ hts ll_Be_99) d_Be_takeFrom_51 ?_
        refine nw_land (v := lN (wN ((sR w (s0 + j))))) hx hb d_Be_takeFrom_54 (lw_low _) ?_
        refine nw_lsub (v := lZ (((wN (sR w (t0 + j)) : Nat) : Int) - ((wN (sR w (s0 + j)) : Nat) : Int))) hx hb d_Be_takeFrom_55 lZ_pm ?_
        refine nw_ladd (v := lZ (o + (((wN (sR w (t0 + j)) : Nat) : Int) - ((wN (sR w (s0 + j)) : Nat) : Int)))) hx hb d_Be_takeFrom_56 (lZ_add _ _) ?_
        refine lv_lstore (lv' := [(8, .long (lZ (o + (((wN (sR w (t0 + j)) : Nat) : Int) - ((wN (sR w (s0 + j)) : Nat) : Int))))), (10, .int (nI (t0 + j))), (7, .int (nI (t0 + cnt))), (6, .int (nI s0 - nI t0)), (5, .ref (ad 3)), (0, .ref (ad 2)), (1, .int (nI (t0))), (2, .int (nI (tc))), (3, .int (nI (s0))), (4, .int (nI (cnt)))]) hx hb d_Be_takeFrom_57 hl (by decide) rfl (fun ls hl => ?_)
        refine lv_aload hx hb d_Be_takeFrom_59 (lv_at hl 4 rfl) ?_
        refine lv_iload hx hb d_Be_takeFrom_61 (lv_at hl 1 rfl) ?_
        refine lv_lload hx hb d_Be_takeFrom_63 (lv_at hl 0 rfl) ?_
        refine lv_l2i (v := (lZ (o + (((wN (sR w (t0 + j)) : Nat) : Int) - ((wN (sR w (s0 + j)) : Nat) : Int)))).toInt32) hx hb d_Be_takeFrom_65 rfl ?_
        refine nw_sR hx hb hKW.1 hP hD hS (j := t0 + j) (by omega) d_Be_takeFrom_66 (fun H locs hP hD hS => ?_)
        refine lv_lload hx hb d_Be_takeFrom_67 (lv_at hl 0 rfl) ?_
        refine lv_bipush (v := nI (32)) hx hb d_Be_takeFrom_69 (by decide) ?_
        refine lv_lshr (v := lZ ((o + (((wN (sR w (t0 + j)) : Nat) : Int) - ((wN (sR w (s0 + j)) : Nat) : Int))) / 4294967296)) hx hb d_Be_takeFrom_71 (lZ_shr (by omega) (by omega)) ?_
        refine lv_lstore (lv' := [(8, .long (lZ ((o + (((wN (sR w (t0 + j)) : Nat) : Int) - ((wN (sR w (s0 + j)) : Nat) : Int))) / 4294967296))), (10, .int (nI (t0 + j))), (7, .int (nI (t0 + cnt))), (6, .int (nI s0 - nI t0)), (5, .ref (ad 3)), (0, .ref (ad 2)), (1, .int (nI (t0))), (2, .int (nI (tc))), (3, .int (nI (s0))), (4, .int (nI (cnt)))]) hx hb d_Be_takeFrom_72 hl (by decide) rfl (fun ls hl => ?_)
        refine lv_iinc (v := nI (t0 + j + 1)) (lv' := [(10, .int (nI (t0 + j + 1))), (8, .long (lZ ((o + (((wN (sR w (t0 + j)) : Nat) : Int) - ((wN (sR w (s0 + j)) : Nat) : Int))) / 4294967296))), (7, .int (nI (t0 + cnt))), (6, .int (nI s0 - nI t0)), (5, .ref (ad 3)), (0, .ref (ad 2)), (1, .int (nI (t0))), (2, .int (nI (tc))), (3, .int (nI (s0))), (4, .int (nI (cnt)))]) hx hb d_Be_takeFrom_74 hl (k := 1) rfl (nI_add _ 1) (by decide) rfl (fun ls hl => ?_)
        refine lv_goto (tgt := 23) hx hb d_Be_takeFrom_77 (by decide) ?_
        exact ih (j + 1) (upd f (t0 + j) (lZ (o + (((wN (sR w (t0 + j)) : Nat) : Int) - ((wN (sR w (s0 + j)) : Nat) : Int)))).toInt32) ((o + (((wN (sR w (t0 + j)) : Nat) : Int) - ((wN (sR w (s0 + j)) : Nat) : Int))) / 4294967296) H locs ls (by omega) (tf_step hinv) (so_upd hf) (by omega) hP hD hS (lv_sub hl [0, 1, 2, 3, 4, 5, 6, 7, 8, 9] rfl)
  have hl : lv_has ls 11 [(10, .int (nI (t0 + 0))), (8, .long (lZ (0))), (7, .int (nI (t0 + cnt))), (6, .int (nI s0 - nI t0)), (5, .ref (ad 3)), (0, .ref (ad 2)), (1, .int (nI (t0))), (2, .int (nI (tc))), (3, .int (nI (s0))), (4, .int (nI (cnt)))] := by have := (lv_sub (l' := [(10, .int (nI (t0 + 0))), (8, .long (lN (0))), (7, .int (nI (t0 + cnt))), (6, .int (nI s0 - nI t0)), (5, .ref (ad 3)), (0, .ref (ad 2)), (1, .int (nI (t0))), (2, .int (nI (tc))), (3, .int (nI (s0))), (4, .int (nI (cnt)))]) hl [0, 1, 2, 3, 4, 5, 6, 7, 8, 9] rfl); rw [lZ_0] at this; exact this
  exact loop1 cnt 0 (sR w) 0 _ _ ls (by omega) (by show ((0 : Nat) : Int) + 0 * 4294967296 ^ 0 = ((0 : Nat) : Int) - ((0 : Nat) : Int); omega) (so_refl _ _ _) (Or.inl rfl) hP hD hS hl
set_option maxHeartbeats 4000000 in
set_option maxRecDepth 100000 in
/-- takeOne(at, count) -/
theorem c_Be_takeOne (l : Launch) {D : va_G} {cI cB cR : ClassId} {ad : Nat → Nat} (w : St) (sz : Nat) {t0 cnt : Nat} (h1 : t0 + cnt ≤ 28672) : Met l y_Be_takeOne (q_Be_takeOne :: wA) { frames := 0, cells := 0, slots := 0, locals := 0 } (va_Pc [.ref (ad 2), .int (nI (t0)), .int (nI (cnt))] (PW D cI cB cR ad w sz)) (va_Qi (fun (r : Int32) (w1 : St) => ∃ (f : Nat → Int32) (o : Nat), w1 = pR w f ∧ r = nI o ∧ o ≤ 1 ∧ so f (sR w) t0 cnt ∧ vN f t0 cnt + 1 = vN (sR w) t0 cnt + o * 4294967296 ^ cnt) (BW D cI cB cR ad) (AA ad sz)) 0 0 (AA ad sz) := by
  refine Met.ofW (cc := b_Be_takeOne) (maxL := 4) (ret := (some (.int))) (by decide) rfl ?_
  intro p e s m args below meth c s₁ B hml hv
  obtain ⟨rfl, hsz, hP, hD0, hKW⟩ := hv
  have hx := B.exec
  have hb := B.bytes
  have hr := B.returns
  have hts := atoms_spec (ws := q_Be_takeOne :: wA) B.pre
  have hown : s.vm.findClass R_Be = some m.cls := findClass_of_methodNamed B.named
  have hlocks := B.notSynchronized
  subst hsz
  have hD := NC_AA (sz := s.heap.size) hD0
  have hS : va_S (AA ad s.heap.size) s.heap s.heap [] := va_S.rf
  have hl := lv_entry ([.ref (ad 2), .int (nI (t0)), .int (nI (cnt))]) (n := 4) (Nat.le_of_ble_eq_true rfl)
  rw [lg_entry_eq]
  generalize (lg_sl ([.ref (ad 2), .int (nI (t0)), .int (nI (cnt))]) ++ List.replicate (4 - (lg_sl ([.ref (ad 2), .int (nI (t0)), .int (nI (cnt))])).length) Slot.unset).toArray = ls at hl ⊢
  have hl : lv_has ls 4 [(0, .ref (ad 2)), (1, .int (nI (t0))), (2, .int (nI (cnt)))] := hl
  refine lv_iload_n hx hb d_Be_takeOne_0 rfl (lv_at hl 1 rfl) ?_
  refine lv_istore_n (lv' := [(3, .int (nI (t0))), (0, .ref (ad 2)), (1, .int (nI (t0))), (2, .int (nI (cnt)))]) hx hb d_Be_takeOne_1 rfl hl (by decide) rfl (fun ls hl => ?_)
  have loop : ∀ (n j : Nat) (f : Nat → Int32) (H : Heap) (locs : List Loc) (ls : Array Slot), j + n = cnt → vN f t0 j + 1 = vN (sR w) t0 j + 4294967296 ^ j → so f (sR w) t0 j → va_P D clA (NC cI cB cR ad (pR w f)) H → va_D (AA ad s.heap.size) (NC cI cB cR ad (pR w f)) → va_S (AA ad s.heap.size) s.heap H locs → lv_has ls 4 [(3, .int (nI (t0 + j))), (0, .ref (ad 2)), (1, .int (nI (t0))), (2, .int (nI (cnt)))] → W p l e (headSpec (q_Be_takeOne :: wA) { frames := 0, cells := 0, slots := 0, locals := 0 }).room s m ([.ref (ad 2), .int (nI (t0)), .int (nI (cnt))] : List Value).toArray below meth c H locs 0 0 (MQ below (va_Qi (fun (r : Int32) (w1 : St) => ∃ (f : Nat → Int32) (o : Nat), w1 = pR w f ∧ r = nI o ∧ o ≤ 1 ∧ so f (sR w) t0 cnt ∧ vN f t0 cnt + 1 = vN (sR w) t0 cnt + o * 4294967296 ^ cnt) (BW D cI cB cR ad) (AA ad s.heap.size)) ([.ref (ad 2), .int (nI (t0)), .int (nI (cnt))] : List Value).toArray s 0 0 (AA ad s.heap.size)) (F0 m 2 ls []) := by
    intro n
    induction n with
    | zero =>
      intro j f H locs ls hj hinv hf hP hD hS hl
      refine lv_iload_n hx hb d_Be_takeOne_2 rfl (lv_at hl 0 rfl) ?_
      refine lv_iload_n hx hb d_Be_takeOne_3 rfl (lv_at hl 2 rfl) ?_
      refine lv_iload_n hx hb d_Be_takeOne_4 rfl (lv_at hl 3 rfl) ?_
      refine nw_iadd (v := nI (t0 + cnt)) hx hb d_Be_takeOne_5 (nI_add _ _) ?_
      refine lv_icmp_ge (tgt := 37) hx hb d_Be_takeOne_6 (by decide) (fun c6 => ?_) (fun c6 => ?_)
      · skip
        have c6 : t0 + cnt ≤ t0 + j := (nI_leI (by omega) (by omega)).mp c6
        have ej : j = cnt := by omega
        subst ej
        refine lv_iconst (v := nI (1)) hx hb d_Be_takeOne_37 (by decide) ?_
        exact W.iret (v := nI (1)) hx hb hr (fun t ht hW => ⟨⟨_, pR w f, rfl, ⟨f, 1, rfl, rfl, by omega, hf, by rw [Nat.one_mul]; exact hinv⟩, BW_of ht hP⟩, hS.F ht⟩) hS.2.2 d_Be_takeOne_38
      · exact absurd (nI_le (by omega) (by omega)) c6
    | succ n ih =>
      intro j f H locs ls hj hinv hf hP hD hS hl
      refine lv_iload_n hx hb d_Be_takeOne_2 rfl (lv_at hl 0 rfl) ?_
      refine lv_iload_n hx hb d_Be_takeOne_3 rfl (lv_at hl 2 rfl) ?_
      refine lv_iload_n hx hb d_Be_takeOne_4 rfl (lv_at hl 3 rfl) ?_
      refine nw_iadd (v := nI (t0 + cnt)) hx hb d_Be_takeOne_5 (nI_add _ _) ?_
      refine lv_icmp_ge (tgt := 37) hx hb d_Be_takeOne_6 (by decide) (fun c6 => ?_) (fun c6 => ?_)
      · exact absurd c6 (nI_ge (by omega) (by omega))
      · skip
        refine lv_aload_n hx hb d_Be_takeOne_9 rfl (lv_at hl 1 rfl) ?_
        refine nw_gR hx hb hts hown hKW.1 hP lf_Be_11 d_Be_takeOne_10 ?_
        refine lv_iload_n hx hb d_Be_takeOne_13 rfl (lv_at hl 0 rfl) ?_
        refine lv_dup2_11 hx hb d_Be_takeOne_14 rfl rfl ?_
        refine nw_lR hx hb hKW.1 hP (j := t0 + j) (by omega) (x := sR w (t0 + j)) (hf _ (by omega)) d_Be_takeOne_15 ?_
        refine lv_iconst (v := nI (1)) hx hb d_Be_takeOne_16 (by decide) ?_
        refine nw_isub (v := (sR w (t0 + j)) - (nI (1))) hx hb d_Be_takeOne_17 rfl ?_
        refine nw_sR hx hb hKW.1 hP hD hS (j := t0 + j) (by omega) d_Be_takeOne_18 (fun H locs hP hD hS => ?_)
        refine lv_aload_n hx hb d_Be_takeOne_19 rfl (lv_at hl 1 rfl) ?_
        refine nw_gR hx hb hts hown hKW.1 hP lf_Be_11 d_Be_takeOne_20 ?_
        refine lv_iload_n hx hb d_Be_takeOne_23 rfl (lv_at hl 0 rfl) ?_
        refine nw_lR hx hb hKW.1 hP (j := t0 + j) (by omega) (x := sR w (t0 + j) - nI 1) pk_us d_Be_takeOne_24 ?_
        refine lv_iconst (v := -1) hx hb d_Be_takeOne_25 (by decide) ?_
        refine lv_icmp_eq (tgt := 31) hx hb d_Be_takeOne_26 (by decide) (fun c26 => ?_) (fun c26 => ?_)
        · skip
          refine lv_iinc (v := nI (t0 + j + 1)) (lv' := [(3, .int (nI (t0 + j + 1))), (0, .ref (ad 2)), (1, .int (nI (t0))), (2, .int (nI (cnt)))]) hx hb d_Be_takeOne_31 hl (k := 0) rfl (nI_add _ 1) (by decide) rfl (fun ls hl => ?_)
          refine lv_goto (tgt := 2) hx hb d_Be_takeOne_34 (by decide) ?_
          exact ih (j + 1) (upd f (t0 + j) (sR w (t0 + j) - nI 1)) H locs ls (by omega) (t1_step0 hinv c26) (so_upd hf) hP hD hS (lv_sub hl [0, 1, 2, 3] rfl)
        · skip
          refine lv_iconst (v := nI (0)) hx hb d_Be_takeOne_29 (by decide) ?_
          exact W.iret (v := nI (0)) hx hb hr (fun t ht hW => ⟨⟨_, pR w (upd f (t0 + j) (sR w (t0 + j) - nI 1)), rfl, ⟨_, 0, rfl, rfl, by omega, (so_upd hf).wide (by omega), by rw [Nat.zero_mul]; exact t1_step1 (by omega) hf hinv c26⟩, BW_of ht hP⟩, hS.F ht⟩) hS.2.2 d_Be_takeOne_30
  exact loop cnt 0 (sR w) _ _ ls (by omega) (by show 0 + 1 = 0 + 4294967296 ^ 0; omega) (so_refl _ _ _) hP hD hS (lv_sub hl [0, 1, 2, 3] rfl)
set_option maxHeartbeats 4000000 in
set_option maxRecDepth 100000 in
/-- isNotLess(a, b, count) -/
theorem c_Be_isNotLess (l : Launch) {D : va_G} {cI cB cR : ClassId} {ad : Nat → Nat} (w : St) (sz : Nat) {a0 b0 cnt : Nat} (h1 : a0 + cnt ≤ 28672) (h2 : b0 + cnt ≤ 28672) : Met l y_Be_isNotLess (q_Be_isNotLess :: wA) { frames := 0, cells := 0, slots := 0, locals := 0 } (va_Pc [.ref (ad 2), .int (nI (a0)), .int (nI (b0)), .int (nI (cnt))] (PW D cI cB cR ad w sz)) (va_Qi (fun (r : Int32) (w1 : St) => r = (if vN (sR w) b0 cnt ≤ vN (sR w) a0 cnt then nI 1 else nI 0) ∧ w1 = w) (BW D cI cB cR ad) (AA ad sz)) 0 0 (AA ad sz) := by
  refine Met.ofW (cc := b_Be_isNotLess) (maxL := 5) (ret := (some (.boolean))) (by decide) rfl ?_
  intro p e s m args below meth c s₁ B hml hv
  obtain ⟨rfl, hsz, hP, hD0, hKW⟩ := hv
  have hx := B.exec
  have hb := B.bytes
  have hr := B.returns
  have hts := atoms_spec (ws := q_Be_isNotLess :: wA) B.pre
  have hown : s.vm.findClass R_Be = some m.cls := findClass_of_methodNamed B.named
  have hlocks := B.notSynchronized
  subst hsz
  have hD := NC_AA (sz := s.heap.size) hD0
  have hS : va_S (AA ad s.heap.size) s.heap s.heap [] := va_S.rf
  have hl := lv_entry ([.ref (ad 2), .int (nI (a0)), .int (nI (b0)), .int (nI (cnt))]) (n := 5) (Nat.le_of_ble_eq_true rfl)
  rw [lg_entry_eq]
  generalize (lg_sl ([.ref (ad 2), .int (nI (a0)), .int (nI (b0)), .int (nI (cnt))]) ++ List.replicate (5 - (lg_sl ([.ref (ad 2), .int (nI (a0)), .int (nI (b0)), .int (nI (cnt))])).length) Slot.unset).toArray = ls at hl ⊢
  have hl : lv_has ls 5 [(0, .ref (ad 2)), (1, .int (nI (a0))), (2, .int (nI (b0))), (3, .int (nI (cnt)))] := hl
  refine lv_iload_n hx hb d_Be_isNotLess_0 rfl (lv_at hl 3 rfl) ?_
  refine lv_iconst (v := nI (1)) hx hb d_Be_isNotLess_1 (by decide) ?_
  refine nw_isub (v := dn cnt) hx hb d_Be_isNotLess_2 (dn_sub _) ?_
  refine lv_istore (lv' := [(4, .int (dn cnt)), (0, .ref (ad 2)), (1, .int (nI (a0))), (2, .int (nI (b0))), (3, .int (nI (cnt)))]) hx hb d_Be_isNotLess_3 hl (by decide) rfl (fun ls hl => ?_)
  have loop : ∀ (k : Nat), k ≤ cnt → (∀ j, k ≤ j → j < cnt → sR w (a0 + j) = sR w (b0 + j)) → ∀ ls : Array Slot, lv_has ls 5 [(4, .int (dn k)), (0, .ref (ad 2)), (1, .int (nI (a0))), (2, .int (nI (b0))), (3, .int (nI (cnt)))] → W p l e (headSpec (q_Be_isNotLess :: wA) { frames := 0, cells := 0, slots := 0, locals := 0 }).room s m ([.ref (ad 2), .int (nI (a0)), .int (nI (b0)), .int (nI (cnt))] : List Value).toArray below meth c s.heap [] 0 0 (MQ below (va_Qi (fun (r : Int32) (w1 : St) => r = (if vN (sR w) b0 cnt ≤ vN (sR w) a0 cnt then nI 1 else nI 0) ∧ w1 = w) (BW D cI cB cR ad) (AA ad s.heap.size)) ([.ref (ad 2), .int (nI (a0)), .int (nI (b0)), .int (nI (cnt))] : List Value).toArray s 0 0 (AA ad s.heap.size)) (F0 m 5 ls []) := by
    intro k
    induction k with
    | zero =>
      intro _ he ls hl
      refine lv_iload hx hb d_Be_isNotLess_5 (lv_at hl 0 rfl) ?_
      refine lv_if_lt (tgt := 75) hx hb d_Be_isNotLess_7 (by decide) (fun c7 => ?_) (fun c7 => ?_)
      · skip
        refine lv_iconst (v := nI (1)) hx hb d_Be_isNotLess_75 (by decide) ?_
        have h7 : vN (sR w) b0 cnt = vN (sR w) a0 cnt := vN_congr (fun j hj => (he j (Nat.zero_le _) hj).symm)
        exact W.zret (v := nI (1)) hx hb hr (by decide) (fun t ht hW => ⟨⟨_, w, rfl, ⟨by rw [if_pos (by omega)], rfl⟩, BW_of ht hP⟩, hS.F ht⟩) hS.2.2 d_Be_isNotLess_76
      · exact absurd dn_0 c7
    | succ k ih =>
      intro hk he ls hl
      refine lv_iload hx hb d_Be_isNotLess_5 (lv_at hl 0 rfl) ?_
      refine lv_if_lt (tgt := 75) hx hb d_Be_isNotLess_7 (by decide) (fun c7 => ?_) (fun c7 => ?_)
      · exact absurd c7 (nI_pos (by omega))
      · skip
        refine lv_aload_n hx hb d_Be_isNotLess_10 rfl (lv_at hl 1 rfl) ?_
        refine nw_gR hx hb hts hown hKW.1 hP lf_Be_11 d_Be_isNotLess_11 ?_
        refine lv_iload_n hx hb d_Be_isNotLess_14 rfl (lv_at hl 2 rfl) ?_
        refine lv_iload hx hb d_Be_isNotLess_15 (lv_at hl 0 rfl) ?_
        refine nw_iadd (v := nI (a0 + k)) hx hb d_Be_isNotLess_17 (nI_add _ _) ?_
        refine nw_lR hx hb hKW.1 hP (j := a0 + k) (by omega) (x := sR (w) (a0 + k)) rfl d_Be_isNotLess_18 ?_
        refine lv_aload_n hx hb d_Be_isNotLess_19 rfl (lv_at hl 1 rfl) ?_
        refine nw_gR hx hb hts hown hKW.1 hP lf_Be_11 d_Be_isNotLess_20 ?_
        refine lv_iload_n hx hb d_Be_isNotLess_23 rfl (lv_at hl 3 rfl) ?_
        refine lv_iload hx hb d_Be_isNotLess_24 (lv_at hl 0 rfl) ?_
        refine nw_iadd (v := nI (b0 + k)) hx hb d_Be_isNotLess_26 (nI_add _ _) ?_
        refine nw_lR hx hb hKW.1 hP (j := b0 + k) (by omega) (x := sR (w) (b0 + k)) rfl d_Be_isNotLess_27 ?_
        refine lv_icmp_eq (tgt := 69) hx hb d_Be_isNotLess_28 (by decide) (fun c28 => ?_) (fun c28 => ?_)
        · skip
          refine lv_iinc (v := dn k) (lv' := [(4, .int (dn k)), (0, .ref (ad 2)), (1, .int (nI (a0))), (2, .int (nI (b0))), (3, .int (nI (cnt)))]) hx hb d_Be_isNotLess_69 hl (k := 0) rfl (dn_dec k) (by decide) rfl (fun ls hl => ?_)
          refine lv_goto (tgt := 5) hx hb d_Be_isNotLess_72 (by decide) ?_
          exact ih (by omega) (fun j q1 q2 => by
            rcases Nat.lt_or_ge k j with q | q
            · exact he j (by omega) q2
            · rw [show j = k by omega]; exact c28) ls (lv_sub hl [0, 1, 2, 3, 4] rfl)
        · skip
          refine lv_aload_n hx hb d_Be_isNotLess_31 rfl (lv_at hl 1 rfl) ?_
          refine nw_gR hx hb hts hown hKW.1 hP lf_Be_11 d_Be_isNotLess_32 ?_
          refine lv_iload_n hx hb d_Be_isNotLess_35 rfl (lv_at hl 2 rfl) ?_
          refine lv_iload hx hb d_Be_isNotLess_36 (lv_at hl 0 rfl) ?_
          refine nw_iadd (v := nI (a0 + k)) hx hb d_Be_isNotLess_38 (nI_add _ _) ?_
          refine nw_lR hx hb hKW.1 hP (j := a0 + k) (by omega) (x := sR (w) (a0 + k)) rfl d_Be_isNotLess_39 ?_
          refine lv_i2l (v := (sR (w) (a0 + k)).toInt64) hx hb d_Be_isNotLess_40 rfl ?_
          refine lv_ldc2 (v := 4294967295) hx hb hown (hA_ hts ll_Be_99) d_Be_isNotLess_41 ?_
          refine nw_land (v := lN (wN ((sR (w) (a0 + k))))) hx hb d_Be_isNotLess_44 (lw_low _) ?_
          refine lv_aload_n hx hb d_Be_isNotLess_45 rfl (lv_at hl 1 rfl) ?_
          refine nw_gR hx hb hts hown hKW.1 hP lf_Be_11 d_Be_isNotLess_46 ?_
          refine lv_iload_n hx hb d_Be_isNotLess_49 rfl (lv_at hl 3 rfl) ?_
          refine lv_iload hx hb d_Be_isNotLess_50 (lv_at hl 0 rfl) ?_
          refine nw_iadd (v := nI (b0 + k)) hx hb d_Be_isNotLess_52 (nI_add _ _) ?_
          refine nw_lR hx hb hKW.1 hP (j := b0 + k) (by omega) (x := sR (w) (b0 + k)) rfl d_Be_isNotLess_53 ?_
          refine lv_i2l (v := (sR (w) (b0 + k)).toInt64) hx hb d_Be_isNotLess_54 rfl ?_
          refine lv_ldc2 (v := 4294967295) hx hb hown (hA_ hts ll_Be_99) d_Be_isNotLess_55 ?_
          refine nw_land (v := lN (wN ((sR (w) (b0 + k))))) hx hb d_Be_isNotLess_58 (lw_low _) ?_
          refine W.lcmp hx hb d_Be_isNotLess_59 ?_
          refine lv_if_le (tgt := 67) hx hb d_Be_isNotLess_60 (by decide) (fun c60 => ?_) (fun c60 => ?_)
          · skip
            refine lv_iconst (v := nI (0)) hx hb d_Be_isNotLess_67 (by decide) ?_
            have h9 := (pk_lLE (Nat.lt_trans (wN_lt _) (by decide)) (Nat.lt_trans (wN_lt _) (by decide))).mp ((lg_cmp_le _ _).mp c60)
            have h8 : wN (sR w (a0 + k)) < wN (sR w (b0 + k)) := Nat.lt_of_le_of_ne h9 (fun q => c28 (wN_inj q))
            have h7 := dn_lexA (f := sR w) (g := sR w) (a := a0) (b := b0) (L := cnt) (k := k) (by omega) (fun j q1 q2 => he j (by omega) q2) h8
            exact W.zret (v := nI (0)) hx hb hr (by decide) (fun t ht hW => ⟨⟨_, w, rfl, ⟨by rw [if_neg (by omega)], rfl⟩, BW_of ht hP⟩, hS.F ht⟩) hS.2.2 d_Be_isNotLess_68
          · skip
            refine lv_iconst (v := nI (1)) hx hb d_Be_isNotLess_63 (by decide) ?_
            refine lv_goto (tgt := 68) hx hb d_Be_isNotLess_64 (by decide) ?_
            have h9 : ¬ wN (sR w (a0 + k)) ≤ wN (sR w (b0 + k)) := fun h => c60 ((lg_cmp_le _ _).mpr ((pk_lLE (Nat.lt_trans (wN_lt _) (by decide)) (Nat.lt_trans (wN_lt _) (by decide))).mpr h))
            have h7 := dn_lexA (f := sR w) (g := sR w) (a := b0) (b := a0) (L := cnt) (k := k) (by omega) (fun j q1 q2 => (he j (by omega) q2).symm) (Nat.not_le.mp h9)
            exact W.zret (v := nI (1)) hx hb hr (by decide) (fun t ht hW => ⟨⟨_, w, rfl, ⟨by rw [if_pos (by omega)], rfl⟩, BW_of ht hP⟩, hS.F ht⟩) hS.2.2 d_Be_isNotLess_68
  exact loop cnt (Nat.le_refl _) (fun j q1 q2 => absurd q2 (by omega)) ls hl

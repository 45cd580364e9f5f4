/-! THE BENCH: guessWord (rows laid by wip/whole/gen/c_be4.py) -/
set_option maxHeartbeats 4000000 in
set_option maxRecDepth 100000 in
/-- guessWord(n, d, dn) -/
theorem c_Be_guessWord (l : Launch) {D : va_G} {cI cB cR : ClassId} {ad : Nat → Nat} (w : St) (sz : Nat) {n0 d0 dn9 : Nat} (hdn : 1 ≤ dn9) (h1 : n0 + dn9 + 1 ≤ 28672) (h2 : d0 + dn9 ≤ 28672) (htop : 2147483648 ≤ wN (sR w (d0 + dn9 - 1))) (hlt : vN (sR w) n0 (dn9 + 1) < vN (sR w) d0 dn9 * 4294967296) : Met l y_Be_guessWord (q_Be_guessWord :: wA) { frames := 1, cells := 0, slots := 0, locals := 30 } (va_Pc [.ref (ad 2), .int (nI (n0)), .int (nI (d0)), .int (nI (dn9))] (PW D cI cB cR ad w sz)) (va_Ql (fun (r : Int64) (w1 : St) => w1 = w ∧ ∃ q : Nat, r = lN q ∧ q < 4294967296 ∧ vN (sR w) n0 (dn9 + 1) / vN (sR w) d0 dn9 ≤ q ∧ q ≤ vN (sR w) n0 (dn9 + 1) / vN (sR w) d0 dn9 + 1) (BW D cI cB cR ad) (AA ad sz)) 0 0 (AA ad sz) := by
  refine Met.ofW (cc := b_Be_guessWord) (maxL := 16) (ret := (some (.long))) (by decide) rfl ?_
  intro p e s m args below meth c s₁ B hml hv
  obtain ⟨rfl, hsz, hP, hD0, hKW⟩ := hv
  have hx := B.exec
  have hb := B.bytes
  have hr := B.returns
  have hts := atoms_spec (ws := q_Be_guessWord :: wA) B.pre
  have hown : s.vm.findClass R_Be = some m.cls := findClass_of_methodNamed B.named
  have hlocks := B.notSynchronized
  subst hsz
  have hD := NC_AA (sz := s.heap.size) hD0
  have hS : va_S (AA ad s.heap.size) s.heap s.heap [] := va_S.rf
  have hl := lv_entry ([.ref (ad 2), .int (nI (n0)), .int (nI (d0)), .int (nI (dn9))]) (n := 16) (Nat.le_of_ble_eq_true rfl)
  rw [lg_entry_eq]
  generalize (lg_sl ([.ref (ad 2), .int (nI (n0)), .int (nI (d0)), .int (nI (dn9))]) ++ List.replicate (16 - (lg_sl ([.ref (ad 2), .int (nI (n0)), .int (nI (d0)), .int (nI (dn9))])).length) Slot.unset).toArray = ls at hl ⊢
  have hl : lv_has ls 16 [(0, .ref (ad 2)), (1, .int (nI (n0))), (2, .int (nI (d0))), (3, .int (nI (dn9)))] := hl
  have qh := wN_lt (sR w (n0 + dn9))
  have qx := wN_lt (sR w (n0 + dn9 - 1))
  have qF := wN_lt (sR w (d0 + dn9 - 1))
  refine lv_aload_n hx hb d_Be_guessWord_0 rfl (lv_at hl 0 rfl) ?_
  refine nw_gR hx hb hts hown hKW.1 hP lf_Be_11 d_Be_guessWord_1 ?_
  refine lv_iload_n hx hb d_Be_guessWord_4 rfl (lv_at hl 1 rfl) ?_
  refine lv_iload_n hx hb d_Be_guessWord_5 rfl (lv_at hl 3 rfl) ?_
  refine nw_iadd (v := nI (n0 + dn9)) hx hb d_Be_guessWord_6 (nI_add _ _) ?_
  refine nw_lR hx hb hKW.1 hP (j := n0 + dn9) (by omega) (x := sR (w) (n0 + dn9)) rfl d_Be_guessWord_7 ?_
  refine lv_i2l (v := (sR (w) (n0 + dn9)).toInt64) hx hb d_Be_guessWord_8 rfl ?_
  refine lv_ldc2 (v := 4294967295) hx hb hown (hA_ hts ll_Be_99) d_Be_guessWord_9 ?_
  refine nw_land (v := lN (wN ((sR (w) (n0 + dn9))))) hx hb d_Be_guessWord_12 (lw_low _) ?_
  refine lv_lstore (lv' := [(4, .long (lN (wN ((sR (w) (n0 + dn9)))))), (0, .ref (ad 2)), (1, .int (nI (n0))), (2, .int (nI (d0))), (3, .int (nI (dn9)))]) hx hb d_Be_guessWord_13 hl (by decide) rfl (fun ls hl => ?_)
  refine lv_lload hx hb d_Be_guessWord_15 (lv_at hl 0 rfl) ?_
  refine lv_bipush (v := nI (32)) hx hb d_Be_guessWord_17 (by decide) ?_
  refine lv_lshl (v := lN (wN (sR w (n0 + dn9)) * 4294967296)) hx hb d_Be_guessWord_19 (lN_shl32 _) ?_
  refine lv_aload_n hx hb d_Be_guessWord_20 rfl (lv_at hl 1 rfl) ?_
  refine nw_gR hx hb hts hown hKW.1 hP lf_Be_11 d_Be_guessWord_21 ?_
  refine lv_iload_n hx hb d_Be_guessWord_24 rfl (lv_at hl 2 rfl) ?_
  refine lv_iload_n hx hb d_Be_guessWord_25 rfl (lv_at hl 4 rfl) ?_
  refine nw_iadd (v := nI (n0 + dn9)) hx hb d_Be_guessWord_26 (nI_add _ _) ?_
  refine lv_iconst (v := nI (1)) hx hb d_Be_guessWord_27 (by decide) ?_
  refine nw_isub (v := nI (n0 + dn9 - 1)) hx hb d_Be_guessWord_28 (pk_sub (by omega)) ?_
  refine nw_lR hx hb hKW.1 hP (j := n0 + dn9 - 1) (by omega) (x := sR (w) (n0 + dn9 - 1)) rfl d_Be_guessWord_29 ?_
  refine lv_i2l (v := (sR (w) (n0 + dn9 - 1)).toInt64) hx hb d_Be_guessWord_30 rfl ?_
  refine lv_ldc2 (v := 4294967295) hx hb hown (hA_ hts ll_Be_99) d_Be_guessWord_31 ?_
  refine nw_land (v := lN (wN ((sR (w) (n0 + dn9 - 1))))) hx hb d_Be_guessWord_34 (lw_low _) ?_
  refine nw_lor (v := lN (wN (sR w (n0 + dn9)) * 4294967296 + wN (sR w (n0 + dn9 - 1)))) hx hb d_Be_guessWord_35 (lN_join (wN_lt _) (wN_lt _)) ?_
  refine lv_lstore (lv' := [(6, .long (lN (wN (sR w (n0 + dn9)) * 4294967296 + wN (sR w (n0 + dn9 - 1))))), (4, .long (lN (wN ((sR (w) (n0 + dn9)))))), (0, .ref (ad 2)), (1, .int (nI (n0))), (2, .int (nI (d0))), (3, .int (nI (dn9)))]) hx hb d_Be_guessWord_36 hl (by decide) rfl (fun ls hl => ?_)
  refine lv_aload_n hx hb d_Be_guessWord_38 rfl (lv_at hl 2 rfl) ?_
  refine nw_gR hx hb hts hown hKW.1 hP lf_Be_11 d_Be_guessWord_39 ?_
  refine lv_iload_n hx hb d_Be_guessWord_42 rfl (lv_at hl 4 rfl) ?_
  refine lv_iload_n hx hb d_Be_guessWord_43 rfl (lv_at hl 5 rfl) ?_
  refine nw_iadd (v := nI (d0 + dn9)) hx hb d_Be_guessWord_44 (nI_add _ _) ?_
  refine lv_iconst (v := nI (1)) hx hb d_Be_guessWord_45 (by decide) ?_
  refine nw_isub (v := nI (d0 + dn9 - 1)) hx hb d_Be_guessWord_46 (pk_sub (by omega)) ?_
  refine nw_lR hx hb hKW.1 hP (j := d0 + dn9 - 1) (by omega) (x := sR (w) (d0 + dn9 - 1)) rfl d_Be_guessWord_47 ?_
  refine lv_i2l (v := (sR (w) (d0 + dn9 - 1)).toInt64) hx hb d_Be_guessWord_48 rfl ?_
  refine lv_ldc2 (v := 4294967295) hx hb hown (hA_ hts ll_Be_99) d_Be_guessWord_49 ?_
  refine nw_land (v := lN (wN ((sR (w) (d0 + dn9 - 1))))) hx hb d_Be_guessWord_52 (lw_low _) ?_
  refine lv_lstore (lv' := [(8, .long (lN (wN ((sR (w) (d0 + dn9 - 1)))))), (6, .long (lN (wN (sR w (n0 + dn9)) * 4294967296 + wN (sR w (n0 + dn9 - 1))))), (4, .long (lN (wN ((sR (w) (n0 + dn9)))))), (0, .ref (ad 2)), (1, .int (nI (n0))), (2, .int (nI (d0))), (3, .int (nI (dn9)))]) hx hb d_Be_guessWord_53 hl (by decide) rfl (fun ls hl => ?_)
  refine lv_lload hx hb d_Be_guessWord_55 (lv_at hl 2 rfl) ?_
  refine lv_lload hx hb d_Be_guessWord_57 (lv_at hl 0 rfl) ?_
  refine W.lcmp hx hb d_Be_guessWord_59 ?_
  refine lv_if_ge (tgt := 73) hx hb d_Be_guessWord_60 (by decide) (fun c60 => ?_) (fun c60 => ?_)
  · skip
    have c60 : wN (sR w (d0 + dn9 - 1)) ≤ wN (sR w (n0 + dn9)) := (pk_lLE (by omega) (by omega)).mp ((lg_cmp_ge _ _).mp c60)
    refine lv_ldc2 (v := 4294967295) hx hb hown (hA_ hts ll_Be_99) d_Be_guessWord_73 ?_
    refine W.eq (g2 := F0 m 76 ls [.long (lN 4294967295)]) rfl ?_
    refine lv_lstore (lv' := [(10, .long (lN (4294967295))), (8, .long (lN (wN ((sR (w) (d0 + dn9 - 1)))))), (6, .long (lN (wN (sR w (n0 + dn9)) * 4294967296 + wN (sR w (n0 + dn9 - 1))))), (4, .long (lN (wN ((sR (w) (n0 + dn9)))))), (0, .ref (ad 2)), (1, .int (nI (n0))), (2, .int (nI (d0))), (3, .int (nI (dn9)))]) hx hb d_Be_guessWord_76 hl (by decide) rfl (fun ls hl => ?_)
    refine lv_iload_n hx hb d_Be_guessWord_78 rfl (lv_at hl 7 rfl) ?_
    refine lv_iconst (v := nI (1)) hx hb d_Be_guessWord_79 (by decide) ?_
    refine lv_icmp_ne (tgt := 86) hx hb d_Be_guessWord_80 (by decide) (fun c80 => ?_) (fun c80 => ?_)
    · skip
      have c80 : ¬ (dn9 = 1) := fun h => c80 ((nI_eq (by omega) (by omega)).mpr h)
      have hFh : wN (sR w (n0 + dn9)) = wN (sR w (d0 + dn9 - 1)) := by
        obtain ⟨e9, rfl⟩ : ∃ e9, dn9 = e9 + 2 := ⟨dn9 - 2, by omega⟩
        have hN := gc_N (sR w) n0 e9
        have hD9 := gc_D (sR w) d0 e9
        rw [hN, hD9] at hlt
        exact Nat.le_antisymm (gc_top (wN_lt _) (vN_lt (sR w) d0 e9) rfl hlt) c60
      have hg1 : 4294967295 * wN (sR w (d0 + dn9 - 1)) ≤ wN (sR w (n0 + dn9)) * 4294967296 + wN (sR w (n0 + dn9 - 1)) := by omega
      have hg2 : 4294967295 ≤ 4294967295 := Nat.le_refl _
      have hg3 : wN (sR w (n0 + dn9)) * 4294967296 + wN (sR w (n0 + dn9 - 1)) < (4294967295 + 1) * wN (sR w (d0 + dn9 - 1)) ∨ 4294967295 = 4294967295 := Or.inr rfl
      have hgl : wN (sR w (n0 + dn9)) * 4294967296 + wN (sR w (n0 + dn9 - 1)) - 4294967295 * wN (sR w (d0 + dn9 - 1)) < 8589934592 := by omega
      have qS := wN_lt (sR w (d0 + dn9 - 2))
      have core : (wN (sR w (n0 + dn9)) * 4294967296 + wN (sR w (n0 + dn9 - 1)) - 4294967295 * wN (sR w (d0 + dn9 - 1)) < 4294967295 * wN (sR w (d0 + dn9 - 2)) / 4294967296 → 1 ≤ 4294967295 ∧ vN (sR w) n0 (dn9 + 1) < 4294967295 * vN (sR w) d0 dn9 ∧ 4294967295 * vN (sR w) d0 dn9 ≤ vN (sR w) n0 (dn9 + 1) + 2 * vN (sR w) d0 dn9) ∧ (¬ wN (sR w (n0 + dn9)) * 4294967296 + wN (sR w (n0 + dn9 - 1)) - 4294967295 * wN (sR w (d0 + dn9 - 1)) < 4294967295 * wN (sR w (d0 + dn9 - 2)) / 4294967296 → vN (sR w) n0 (dn9 + 1) < (4294967295 + 1) * vN (sR w) d0 dn9 ∧ 4294967295 * vN (sR w) d0 dn9 ≤ vN (sR w) n0 (dn9 + 1) + vN (sR w) d0 dn9) := by
        obtain ⟨e9, rfl⟩ : ∃ e9, dn9 = e9 + 2 := ⟨dn9 - 2, by omega⟩
        have hN := gc_N (sR w) n0 e9
        have hD9 := gc_D (sR w) d0 e9
        rw [hN, hD9] at hlt ⊢
        exact gc_core htop (wN_lt _) (vN_lt (sR w) d0 e9) (by have := vN_lt (sR w) n0 (e9 + 1); rw [Nat.pow_succ] at this; exact this) hlt hg1 hg2 hg3
      have hDp : 0 < vN (sR w) d0 dn9 := by
        rcases Nat.eq_zero_or_pos (vN (sR w) d0 dn9) with q | q
        · have h8 := vN_eq0 q (dn9 - 1) (by omega)
          rw [show d0 + (dn9 - 1) = d0 + dn9 - 1 by omega] at h8
          rw [h8, wN_0] at htop
          omega
        · exact q
      have hmu := pr_bound (show 4294967295 < 4294967296 by omega) (wN_lt (sR w (d0 + dn9 - 2)))
      refine lv_lload hx hb d_Be_guessWord_86 (lv_at hl 2 rfl) ?_
      refine lv_lload hx hb d_Be_guessWord_88 (lv_at hl 0 rfl) ?_
      refine lv_lload hx hb d_Be_guessWord_90 (lv_at hl 1 rfl) ?_
      refine nw_lmul (v := lN (4294967295 * wN (sR w (d0 + dn9 - 1)))) hx hb d_Be_guessWord_92 (lN_mul _ _) ?_
      refine nw_lsub (v := lN (wN (sR w (n0 + dn9)) * 4294967296 + wN (sR w (n0 + dn9 - 1)) - 4294967295 * wN (sR w (d0 + dn9 - 1)))) hx hb d_Be_guessWord_93 (lN_sub hg1) ?_
      refine lv_lstore (lv' := [(12, .long (lN (wN (sR w (n0 + dn9)) * 4294967296 + wN (sR w (n0 + dn9 - 1)) - 4294967295 * wN (sR w (d0 + dn9 - 1))))), (10, .long (lN (4294967295))), (8, .long (lN (wN ((sR (w) (d0 + dn9 - 1)))))), (6, .long (lN (wN (sR w (n0 + dn9)) * 4294967296 + wN (sR w (n0 + dn9 - 1))))), (4, .long (lN (wN ((sR (w) (n0 + dn9)))))), (0, .ref (ad 2)), (1, .int (nI (n0))), (2, .int (nI (d0))), (3, .int (nI (dn9)))]) hx hb d_Be_guessWord_94 hl (by decide) rfl (fun ls hl => ?_)
      refine lv_lload hx hb d_Be_guessWord_96 (lv_at hl 1 rfl) ?_
      refine lv_aload_n hx hb d_Be_guessWord_98 rfl (lv_at hl 5 rfl) ?_
      refine nw_gR hx hb hts hown hKW.1 hP lf_Be_11 d_Be_guessWord_99 ?_
      refine lv_iload_n hx hb d_Be_guessWord_102 rfl (lv_at hl 7 rfl) ?_
      refine lv_iload_n hx hb d_Be_guessWord_103 rfl (lv_at hl 8 rfl) ?_
      refine nw_iadd (v := nI (d0 + dn9)) hx hb d_Be_guessWord_104 (nI_add _ _) ?_
      refine lv_iconst (v := nI (2)) hx hb d_Be_guessWord_105 (by decide) ?_
      refine nw_isub (v := nI (d0 + dn9 - 2)) hx hb d_Be_guessWord_106 (pk_sub (by omega)) ?_
      refine nw_lR hx hb hKW.1 hP (j := d0 + dn9 - 2) (by omega) (x := sR (w) (d0 + dn9 - 2)) rfl d_Be_guessWord_107 ?_
      refine lv_i2l (v := (sR (w) (d0 + dn9 - 2)).toInt64) hx hb d_Be_guessWord_108 rfl ?_
      refine lv_ldc2 (v := 4294967295) hx hb hown (hA_ hts ll_Be_99) d_Be_guessWord_109 ?_
      refine nw_land (v := lN (wN ((sR (w) (d0 + dn9 - 2))))) hx hb d_Be_guessWord_112 (lw_low _) ?_
      refine nw_lmul (v := lN (4294967295 * wN (sR w (d0 + dn9 - 2)))) hx hb d_Be_guessWord_113 (lN_mul _ _) ?_
      refine lv_lstore (lv' := [(14, .long (lN (4294967295 * wN (sR w (d0 + dn9 - 2))))), (12, .long (lN (wN (sR w (n0 + dn9)) * 4294967296 + wN (sR w (n0 + dn9 - 1)) - 4294967295 * wN (sR w (d0 + dn9 - 1))))), (10, .long (lN (4294967295))), (8, .long (lN (wN ((sR (w) (d0 + dn9 - 1)))))), (6, .long (lN (wN (sR w (n0 + dn9)) * 4294967296 + wN (sR w (n0 + dn9 - 1))))), (4, .long (lN (wN ((sR (w) (n0 + dn9)))))), (0, .ref (ad 2)), (1, .int (nI (n0))), (2, .int (nI (d0))), (3, .int (nI (dn9)))]) hx hb d_Be_guessWord_114 hl (by decide) rfl (fun ls hl => ?_)
      refine lv_lload hx hb d_Be_guessWord_116 (lv_at hl 0 rfl) ?_
      refine lv_bipush (v := nI (32)) hx hb d_Be_guessWord_118 (by decide) ?_
      refine lv_lushr (v := lN (4294967295 * wN (sR w (d0 + dn9 - 2)) / 4294967296)) hx hb d_Be_guessWord_120 (lN_shr32 (by omega)) ?_
      refine lv_lload hx hb d_Be_guessWord_121 (lv_at hl 1 rfl) ?_
      refine W.lcmp hx hb d_Be_guessWord_123 ?_
      refine lv_if_le (tgt := 134) hx hb d_Be_guessWord_124 (by decide) (fun c124 => ?_) (fun c124 => ?_)
      · skip
        have c124 : ¬ wN (sR w (n0 + dn9)) * 4294967296 + wN (sR w (n0 + dn9 - 1)) - 4294967295 * wN (sR w (d0 + dn9 - 1)) < 4294967295 * wN (sR w (d0 + dn9 - 2)) / 4294967296 := Nat.not_lt.mpr ((pk_lLE (by omega) (by omega)).mp ((lg_cmp_le _ _).mp c124))
        obtain ⟨z1, z2⟩ := core.2 c124
        refine lv_lload hx hb d_Be_guessWord_134 (lv_at hl 2 rfl) ?_
        exact W.lret (v := lN (4294967295)) hx hb hr (fun t ht hW => ⟨⟨_, w, rfl, ⟨rfl, 4294967295, rfl, by omega, gc_fin hDp z1 z2⟩, BW_of ht hP⟩, hS.F ht⟩) hS.2.2 d_Be_guessWord_136
      · skip
        have c124 : wN (sR w (n0 + dn9)) * 4294967296 + wN (sR w (n0 + dn9 - 1)) - 4294967295 * wN (sR w (d0 + dn9 - 1)) < 4294967295 * wN (sR w (d0 + dn9 - 2)) / 4294967296 := Nat.not_le.mp (fun h => c124 ((lg_cmp_le _ _).mpr ((pk_lLE (by omega) (by omega)).mpr h)))
        obtain ⟨z0, z1, z2⟩ := core.1 c124
        refine lv_lload hx hb d_Be_guessWord_127 (lv_at hl 2 rfl) ?_
        refine lv_lconst (v := lN (1)) hx hb d_Be_guessWord_129 (by decide) ?_
        refine nw_lsub (v := lN (4294967295 - 1)) hx hb d_Be_guessWord_130 (lN_sub z0) ?_
        refine lv_goto (tgt := 136) hx hb d_Be_guessWord_131 (by decide) ?_
        exact W.lret (v := lN (4294967295 - 1)) hx hb hr (fun t ht hW => ⟨⟨_, w, rfl, ⟨rfl, 4294967295 - 1, rfl, by omega, gc_fin2 hDp z0 z1 z2⟩, BW_of ht hP⟩, hS.F ht⟩) hS.2.2 d_Be_guessWord_136
    · skip
      have c80 : dn9 = 1 := (nI_eq (by omega) (by omega)).mp c80
      exfalso
      subst c80
      rw [vN_sucA, vN_one, vN_one, Nat.pow_one] at hlt
      have e8 : wN (sR w (d0 + 1 - 1)) = wN (sR w d0) := by rw [show d0 + 1 - 1 = d0 by omega]
      omega
  · skip
    have c60 : wN (sR w (n0 + dn9)) < wN (sR w (d0 + dn9 - 1)) := Nat.not_le.mp (fun q => c60 ((lg_cmp_ge _ _).mpr ((pk_lLE (by omega) (by omega)).mpr q)))
    refine lv_lload hx hb d_Be_guessWord_63 (lv_at hl 1 rfl) ?_
    refine lv_lload hx hb d_Be_guessWord_65 (lv_at hl 0 rfl) ?_
    refine wS_l (As := [.long (lN (wN (sR w (n0 + dn9)) * 4294967296 + wN (sR w (n0 + dn9 - 1)))), .long (lN (wN ((sR (w) (d0 + dn9 - 1)))))]) (rest := []) (n := 2) ⟨hx, hb, hml, hown, hts⟩ (c_Be_shareOf l w _ (b := wN (sR w (n0 + dn9)) * 4294967296 + wN (sR w (n0 + dn9 - 1))) (d := wN (sR w (d0 + dn9 - 1))) (by omega) (by omega) (by omega)) (cwS0 2 hts lm_Be_138 st_Be_shareOf in_Be kq_Be_shareOf rfl rfl rfl (by decide +kernel) ⟨Nat.le_of_ble_eq_true rfl, Nat.le_of_ble_eq_true rfl⟩) hKW hP hD hS rfl hl.1 rfl (Nat.le_of_ble_eq_true rfl) d_Be_guessWord_67 ⟨Nat.zero_le _, Nat.zero_le _⟩ (fun r w1 H locs hp hP hD hS => ?_)
    obtain ⟨hp, ew⟩ := hp
    rw [ew] at hP hD
    subst hp
    have hz0 := Nat.div_add_mod (wN (sR w (n0 + dn9)) * 4294967296 + wN (sR w (n0 + dn9 - 1))) (wN (sR w (d0 + dn9 - 1)))
    have hz1 := Nat.mod_lt (wN (sR w (n0 + dn9)) * 4294967296 + wN (sR w (n0 + dn9 - 1))) (show 0 < wN (sR w (d0 + dn9 - 1)) by omega)
    have hz2 : (wN (sR w (n0 + dn9)) * 4294967296 + wN (sR w (n0 + dn9 - 1))) / wN (sR w (d0 + dn9 - 1)) < 4294967296 := by rw [Nat.div_lt_iff_lt_mul (by omega)]; have : (wN (sR w (n0 + dn9)) + 1) * 4294967296 ≤ wN (sR w (d0 + dn9 - 1)) * 4294967296 := Nat.mul_le_mul_right _ c60; rw [Nat.mul_comm 4294967296]; omega
    obtain ⟨g9, hg9⟩ : ∃ g9, g9 = (wN (sR w (n0 + dn9)) * 4294967296 + wN (sR w (n0 + dn9 - 1))) / wN (sR w (d0 + dn9 - 1)) := ⟨_, rfl⟩
    rw [← hg9] at hz0 hz2 ⊢
    refine lv_goto (tgt := 76) hx hb d_Be_guessWord_70 (by decide) ?_
    refine lv_lstore (lv' := [(10, .long (lN (g9))), (8, .long (lN (wN ((sR (w) (d0 + dn9 - 1)))))), (6, .long (lN (wN (sR w (n0 + dn9)) * 4294967296 + wN (sR w (n0 + dn9 - 1))))), (4, .long (lN (wN ((sR (w) (n0 + dn9)))))), (0, .ref (ad 2)), (1, .int (nI (n0))), (2, .int (nI (d0))), (3, .int (nI (dn9)))]) hx hb d_Be_guessWord_76 hl (by decide) rfl (fun ls hl => ?_)
    refine lv_iload_n hx hb d_Be_guessWord_78 rfl (lv_at hl 7 rfl) ?_
    refine lv_iconst (v := nI (1)) hx hb d_Be_guessWord_79 (by decide) ?_
    refine lv_icmp_ne (tgt := 86) hx hb d_Be_guessWord_80 (by decide) (fun c80 => ?_) (fun c80 => ?_)
    · skip
      have c80 : ¬ (dn9 = 1) := fun h => c80 ((nI_eq (by omega) (by omega)).mpr h)
      rw [Nat.mul_comm] at hz0
      have hg1 : g9 * wN (sR w (d0 + dn9 - 1)) ≤ wN (sR w (n0 + dn9)) * 4294967296 + wN (sR w (n0 + dn9 - 1)) := by omega
      have hg2 : g9 ≤ 4294967295 := by omega
      have hg3 : wN (sR w (n0 + dn9)) * 4294967296 + wN (sR w (n0 + dn9 - 1)) < (g9 + 1) * wN (sR w (d0 + dn9 - 1)) ∨ g9 = 4294967295 := Or.inl (by rw [Nat.add_mul, Nat.one_mul]; omega)
      have hgl : wN (sR w (n0 + dn9)) * 4294967296 + wN (sR w (n0 + dn9 - 1)) - g9 * wN (sR w (d0 + dn9 - 1)) < 8589934592 := by omega
      have qS := wN_lt (sR w (d0 + dn9 - 2))
      have core : (wN (sR w (n0 + dn9)) * 4294967296 + wN (sR w (n0 + dn9 - 1)) - g9 * wN (sR w (d0 + dn9 - 1)) < g9 * wN (sR w (d0 + dn9 - 2)) / 4294967296 → 1 ≤ g9 ∧ vN (sR w) n0 (dn9 + 1) < g9 * vN (sR w) d0 dn9 ∧ g9 * vN (sR w) d0 dn9 ≤ vN (sR w) n0 (dn9 + 1) + 2 * vN (sR w) d0 dn9) ∧ (¬ wN (sR w (n0 + dn9)) * 4294967296 + wN (sR w (n0 + dn9 - 1)) - g9 * wN (sR w (d0 + dn9 - 1)) < g9 * wN (sR w (d0 + dn9 - 2)) / 4294967296 → vN (sR w) n0 (dn9 + 1) < (g9 + 1) * vN (sR w) d0 dn9 ∧ g9 * vN (sR w) d0 dn9 ≤ vN (sR w) n0 (dn9 + 1) + vN (sR w) d0 dn9) := by
        obtain ⟨e9, rfl⟩ : ∃ e9, dn9 = e9 + 2 := ⟨dn9 - 2, by omega⟩
        have hN := gc_N (sR w) n0 e9
        have hD9 := gc_D (sR w) d0 e9
        rw [hN, hD9] at hlt ⊢
        exact gc_core htop (wN_lt _) (vN_lt (sR w) d0 e9) (by have := vN_lt (sR w) n0 (e9 + 1); rw [Nat.pow_succ] at this; exact this) hlt hg1 hg2 hg3
      have hDp : 0 < vN (sR w) d0 dn9 := by
        rcases Nat.eq_zero_or_pos (vN (sR w) d0 dn9) with q | q
        · have h8 := vN_eq0 q (dn9 - 1) (by omega)
          rw [show d0 + (dn9 - 1) = d0 + dn9 - 1 by omega] at h8
          rw [h8, wN_0] at htop
          omega
        · exact q
      have hmu := pr_bound (show g9 < 4294967296 by omega) (wN_lt (sR w (d0 + dn9 - 2)))
      refine lv_lload hx hb d_Be_guessWord_86 (lv_at hl 2 rfl) ?_
      refine lv_lload hx hb d_Be_guessWord_88 (lv_at hl 0 rfl) ?_
      refine lv_lload hx hb d_Be_guessWord_90 (lv_at hl 1 rfl) ?_
      refine nw_lmul (v := lN (g9 * wN (sR w (d0 + dn9 - 1)))) hx hb d_Be_guessWord_92 (lN_mul _ _) ?_
      refine nw_lsub (v := lN (wN (sR w (n0 + dn9)) * 4294967296 + wN (sR w (n0 + dn9 - 1)) - g9 * wN (sR w (d0 + dn9 - 1)))) hx hb d_Be_guessWord_93 (lN_sub hg1) ?_
      refine lv_lstore (lv' := [(12, .long (lN (wN (sR w (n0 + dn9)) * 4294967296 + wN (sR w (n0 + dn9 - 1)) - g9 * wN (sR w (d0 + dn9 - 1))))), (10, .long (lN (g9))), (8, .long (lN (wN ((sR (w) (d0 + dn9 - 1)))))), (6, .long (lN (wN (sR w (n0 + dn9)) * 4294967296 + wN (sR w (n0 + dn9 - 1))))), (4, .long (lN (wN ((sR (w) (n0 + dn9)))))), (0, .ref (ad 2)), (1, .int (nI (n0))), (2, .int (nI (d0))), (3, .int (nI (dn9)))]) hx hb d_Be_guessWord_94 hl (by decide) rfl (fun ls hl => ?_)
      refine lv_lload hx hb d_Be_guessWord_96 (lv_at hl 1 rfl) ?_
      refine lv_aload_n hx hb d_Be_guessWord_98 rfl (lv_at hl 5 rfl) ?_
      refine nw_gR hx hb hts hown hKW.1 hP lf_Be_11 d_Be_guessWord_99 ?_
      refine lv_iload_n hx hb d_Be_guessWord_102 rfl (lv_at hl 7 rfl) ?_
      refine lv_iload_n hx hb d_Be_guessWord_103 rfl (lv_at hl 8 rfl) ?_
      refine nw_iadd (v := nI (d0 + dn9)) hx hb d_Be_guessWord_104 (nI_add _ _) ?_
      refine lv_iconst (v := nI (2)) hx hb d_Be_guessWord_105 (by decide) ?_
      refine nw_isub (v := nI (d0 + dn9 - 2)) hx hb d_Be_guessWord_106 (pk_sub (by omega)) ?_
      refine nw_lR hx hb hKW.1 hP (j := d0 + dn9 - 2) (by omega) (x := sR (w) (d0 + dn9 - 2)) rfl d_Be_guessWord_107 ?_
      refine lv_i2l (v := (sR (w) (d0 + dn9 - 2)).toInt64) hx hb d_Be_guessWord_108 rfl ?_
      refine lv_ldc2 (v := 4294967295) hx hb hown (hA_ hts ll_Be_99) d_Be_guessWord_109 ?_
      refine nw_land (v := lN (wN ((sR (w) (d0 + dn9 - 2))))) hx hb d_Be_guessWord_112 (lw_low _) ?_
      refine nw_lmul (v := lN (g9 * wN (sR w (d0 + dn9 - 2)))) hx hb d_Be_guessWord_113 (lN_mul _ _) ?_
      refine lv_lstore (lv' := [(14, .long (lN (g9 * wN (sR w (d0 + dn9 - 2))))), (12, .long (lN (wN (sR w (n0 + dn9)) * 4294967296 + wN (sR w (n0 + dn9 - 1)) - g9 * wN (sR w (d0 + dn9 - 1))))), (10, .long (lN (g9))), (8, .long (lN (wN ((sR (w) (d0 + dn9 - 1)))))), (6, .long (lN (wN (sR w (n0 + dn9)) * 4294967296 + wN (sR w (n0 + dn9 - 1))))), (4, .long (lN (wN ((sR (w) (n0 + dn9)))))), (0, .ref (ad 2)), (1, .int (nI (n0))), (2, .int (nI (d0))), (3, .int (nI (dn9)))]) hx hb d_Be_guessWord_114 hl (by decide) rfl (fun ls hl => ?_)
      refine lv_lload hx hb d_Be_guessWord_116 (lv_at hl 0 rfl) ?_
      refine lv_bipush (v := nI (32)) hx hb d_Be_guessWord_118 (by decide) ?_
      refine lv_lushr (v := lN (g9 * wN (sR w (d0 + dn9 - 2)) / 4294967296)) hx hb d_Be_guessWord_120 (lN_shr32 (by omega)) ?_
      refine lv_lload hx hb d_Be_guessWord_121 (lv_at hl 1 rfl) ?_
      refine W.lcmp hx hb d_Be_guessWord_123 ?_
      refine lv_if_le (tgt := 134) hx hb d_Be_guessWord_124 (by decide) (fun c124 => ?_) (fun c124 => ?_)
      · skip
        have c124 : ¬ wN (sR w (n0 + dn9)) * 4294967296 + wN (sR w (n0 + dn9 - 1)) - g9 * wN (sR w (d0 + dn9 - 1)) < g9 * wN (sR w (d0 + dn9 - 2)) / 4294967296 := Nat.not_lt.mpr ((pk_lLE (by omega) (by omega)).mp ((lg_cmp_le _ _).mp c124))
        obtain ⟨z1, z2⟩ := core.2 c124
        refine lv_lload hx hb d_Be_guessWord_134 (lv_at hl 2 rfl) ?_
        exact W.lret (v := lN (g9)) hx hb hr (fun t ht hW => ⟨⟨_, w, rfl, ⟨rfl, g9, rfl, by omega, gc_fin hDp z1 z2⟩, BW_of ht hP⟩, hS.F ht⟩) hS.2.2 d_Be_guessWord_136
      · skip
        have c124 : wN (sR w (n0 + dn9)) * 4294967296 + wN (sR w (n0 + dn9 - 1)) - g9 * wN (sR w (d0 + dn9 - 1)) < g9 * wN (sR w (d0 + dn9 - 2)) / 4294967296 := Nat.not_le.mp (fun h => c124 ((lg_cmp_le _ _).mpr ((pk_lLE (by omega) (by omega)).mpr h)))
        obtain ⟨z0, z1, z2⟩ := core.1 c124
        refine lv_lload hx hb d_Be_guessWord_127 (lv_at hl 2 rfl) ?_
        refine lv_lconst (v := lN (1)) hx hb d_Be_guessWord_129 (by decide) ?_
        refine nw_lsub (v := lN (g9 - 1)) hx hb d_Be_guessWord_130 (lN_sub z0) ?_
        refine lv_goto (tgt := 136) hx hb d_Be_guessWord_131 (by decide) ?_
        exact W.lret (v := lN (g9 - 1)) hx hb hr (fun t ht hW => ⟨⟨_, w, rfl, ⟨rfl, g9 - 1, rfl, by omega, gc_fin2 hDp z0 z1 z2⟩, BW_of ht hP⟩, hS.F ht⟩) hS.2.2 d_Be_guessWord_136
    · skip
      have c80 : dn9 = 1 := (nI_eq (by omega) (by omega)).mp c80
      refine lv_lload hx hb d_Be_guessWord_83 (lv_at hl 0 rfl) ?_
      have e8 : g9 = vN (sR w) n0 (dn9 + 1) / vN (sR w) d0 dn9 → vN (sR w) n0 (dn9 + 1) / vN (sR w) d0 dn9 ≤ g9 ∧ g9 ≤ vN (sR w) n0 (dn9 + 1) / vN (sR w) d0 dn9 + 1 := fun q => by rw [← q]; omega
      exact W.lret (v := lN (g9)) hx hb hr (fun t ht hW => ⟨⟨_, w, rfl, ⟨rfl, g9, rfl, by omega, e8 (by subst c80; rw [hg9, vN_sucA, vN_one, vN_one, Nat.pow_one, Nat.add_comm, show d0 + 1 - 1 = d0 by omega, show n0 + 1 - 1 = n0 by omega])⟩, BW_of ht hP⟩, hS.F ht⟩) hS.2.2 d_Be_guessWord_85

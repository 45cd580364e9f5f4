/-! THE BENCH: dividePlain (rows laid by wip/whole/gen/c_be6.py) -/
set_option maxHeartbeats 4000000 in
set_option maxRecDepth 100000 in
/-- dividePlain(q, n, d, dn, k) -/
theorem c_Be_dividePlain (l : Launch) {D : va_G} {cI cB cR : ClassId} {ad : Nat → Nat} (w : St) (sz : Nat) {q0 n0 d0 dn9 k9 : Nat} (hdn : 1 ≤ dn9) (h1 : n0 + dn9 + k9 ≤ 28672) (h2 : d0 + dn9 ≤ 28672) (h3 : q0 + k9 ≤ 28672) (hnd : n0 + dn9 + k9 ≤ d0 ∨ d0 + dn9 ≤ n0) (hnq : n0 + dn9 + k9 ≤ q0 ∨ q0 + k9 ≤ n0) (hdq : d0 + dn9 ≤ q0 ∨ q0 + k9 ≤ d0) (htop : 2147483648 ≤ wN (sR w (d0 + dn9 - 1))) : Met l y_Be_dividePlain (q_Be_dividePlain :: wA) { frames := 2, cells := 0, slots := 0, locals := 80 } (va_Pc [.ref (ad 2), .int (nI (q0)), .int (nI (n0)), .int (nI (d0)), .int (nI (dn9)), .int (nI (k9))] (PW D cI cB cR ad w sz)) (va_Qi (fun (r : Int32) (w1 : St) => ∃ (f : Nat → Int32) (nx : Nat), w1 = pR w f ∧ r = nI nx ∧ nx ≤ 1 ∧ so2 f (sR w) n0 (dn9 + k9) q0 k9 ∧ nx * 4294967296 ^ k9 + vN f q0 k9 = vN (sR w) n0 (dn9 + k9) / vN (sR w) d0 dn9 ∧ vN f n0 dn9 = vN (sR w) n0 (dn9 + k9) % vN (sR w) d0 dn9) (BW D cI cB cR ad) (AA ad sz)) 0 0 (AA ad sz) := by
  refine Met.ofW (cc := b_Be_dividePlain) (maxL := 12) (ret := (some (.int))) (by decide) rfl ?_
  intro p e s m args below meth c s₁ B hml hv
  obtain ⟨rfl, hsz, hP, hD0, hKW⟩ := hv
  have hx := B.exec
  have hb := B.bytes
  have hr := B.returns
  have hts := atoms_spec (ws := q_Be_dividePlain :: wA) B.pre
  have hown : s.vm.findClass R_Be = some m.cls := findClass_of_methodNamed B.named
  have hlocks := B.notSynchronized
  subst hsz
  have hD := NC_AA (sz := s.heap.size) hD0
  have hS : va_S (AA ad s.heap.size) s.heap s.heap [] := va_S.rf
  have hl := lv_entry ([.ref (ad 2), .int (nI (q0)), .int (nI (n0)), .int (nI (d0)), .int (nI (dn9)), .int (nI (k9))]) (n := 12) (Nat.le_of_ble_eq_true rfl)
  rw [lg_entry_eq]
  generalize (lg_sl ([.ref (ad 2), .int (nI (q0)), .int (nI (n0)), .int (nI (d0)), .int (nI (dn9)), .int (nI (k9))]) ++ List.replicate (12 - (lg_sl ([.ref (ad 2), .int (nI (q0)), .int (nI (n0)), .int (nI (d0)), .int (nI (dn9)), .int (nI (k9))])).length) Slot.unset).toArray = ls at hl ⊢
  have hl : lv_has ls 12 [(0, .ref (ad 2)), (1, .int (nI (q0))), (2, .int (nI (n0))), (3, .int (nI (d0))), (4, .int (nI (dn9))), (5, .int (nI (k9)))] := hl
  have hDp := pos_D hdn htop
  have hDh := half_D hdn htop
  have hDl := vN_lt (sR w) d0 dn9
  have loop : ∀ (nx : Nat), nx ≤ 1 → ∀ (i : Nat) (f : Nat → Int32) (H : Heap) (locs : List Loc) (ls : Array Slot), i ≤ k9 → vN (sR w) n0 (dn9 + k9) = (nx * 4294967296 ^ (k9 - (i)) + vN (f) (q0 + (i)) (k9 - (i))) * vN (sR w) d0 dn9 * 4294967296 ^ (i) + vN (f) n0 (dn9 + (i)) → vN f (n0 + i) dn9 < vN (sR w) d0 dn9 → so2 f (sR w) n0 (dn9 + k9) q0 k9 → va_P D clA (NC cI cB cR ad (pR w f)) H → va_D (AA ad s.heap.size) (NC cI cB cR ad (pR w f)) → va_S (AA ad s.heap.size) s.heap H locs → lv_has ls 12 [(7, .int (dn i)), (6, .int (nI (nx))), (0, .ref (ad 2)), (1, .int (nI (q0))), (2, .int (nI (n0))), (3, .int (nI (d0))), (4, .int (nI (dn9))), (5, .int (nI (k9)))] → W p l e (headSpec (q_Be_dividePlain :: wA) { frames := 2, cells := 0, slots := 0, locals := 80 }).room s m ([.ref (ad 2), .int (nI (q0)), .int (nI (n0)), .int (nI (d0)), .int (nI (dn9)), .int (nI (k9))] : List Value).toArray below meth c H locs 0 0 (MQ below (va_Qi (fun (r : Int32) (w1 : St) => ∃ (f : Nat → Int32) (nx : Nat), w1 = pR w f ∧ r = nI nx ∧ nx ≤ 1 ∧ so2 f (sR w) n0 (dn9 + k9) q0 k9 ∧ nx * 4294967296 ^ k9 + vN f q0 k9 = vN (sR w) n0 (dn9 + k9) / vN (sR w) d0 dn9 ∧ vN f n0 dn9 = vN (sR w) n0 (dn9 + k9) % vN (sR w) d0 dn9) (BW D cI cB cR ad) (AA ad s.heap.size)) ([.ref (ad 2), .int (nI (q0)), .int (nI (n0)), .int (nI (d0)), .int (nI (dn9)), .int (nI (k9))] : List Value).toArray s 0 0 (AA ad s.heap.size)) (F0 m 40 ls []) := by
    intro nx hnx i
    induction i with
    | zero =>
      intro f H locs ls hj hinv hlt hso hP hD hS hl
      refine lv_iload hx hb d_Be_dividePlain_40 (lv_at hl 0 rfl) ?_
      refine lv_if_lt (tgt := 156) hx hb d_Be_dividePlain_42 (by decide) (fun c42 => ?_) (fun c42 => ?_)
      · skip
        refine lv_iload hx hb d_Be_dividePlain_156 (lv_at hl 1 rfl) ?_
        rw [Nat.pow_zero, Nat.mul_one] at hinv
        have hz := dv_end hinv hlt
        exact W.iret (v := nI (nx)) hx hb hr (fun t ht hW => ⟨⟨_, pR w f, rfl, ⟨f, nx, rfl, rfl, hnx, hso, hz.1, hz.2⟩, BW_of ht hP⟩, hS.F ht⟩) hS.2.2 d_Be_dividePlain_158
      · exact absurd dn_0 c42
    | succ i ih =>
      intro f H locs ls hj hinv hlt hso hP hD hS hl
      refine lv_iload hx hb d_Be_dividePlain_40 (lv_at hl 0 rfl) ?_
      refine lv_if_lt (tgt := 156) hx hb d_Be_dividePlain_42 (by decide) (fun c42 => ?_) (fun c42 => ?_)
      · exact absurd c42 (nI_pos (by omega))
      · skip
        refine lv_aload_n hx hb d_Be_dividePlain_45 rfl (lv_at hl 2 rfl) ?_
        refine lv_iload_n hx hb d_Be_dividePlain_46 rfl (lv_at hl 4 rfl) ?_
        refine lv_iload hx hb d_Be_dividePlain_47 (lv_at hl 0 rfl) ?_
        refine nw_iadd (v := nI (n0 + i)) hx hb d_Be_dividePlain_49 (nI_add _ _) ?_
        refine lv_iload_n hx hb d_Be_dividePlain_50 rfl (lv_at hl 5 rfl) ?_
        refine lv_iload hx hb d_Be_dividePlain_51 (lv_at hl 6 rfl) ?_
        have hfd : vN f d0 dn9 = vN (sR w) d0 dn9 := hso.vN (by omega) (by omega)
        have hft : f (d0 + dn9 - 1) = sR w (d0 + dn9 - 1) := hso _ (by omega) (by omega)
        refine wV_l (As := [.int (nI (n0 + i)), .int (nI (d0)), .int (nI (dn9))]) (rest := []) (n := 3) ⟨hx, hb, hml, hown, hts⟩ (c_Be_guessWord l (pR w f) _ (n0 := n0 + i) (d0 := d0) (dn9 := dn9) hdn (by omega) (by omega) (by show 2147483648 ≤ wN (f (d0 + dn9 - 1)); rw [hft]; exact htop) (by show vN f (n0 + i) (dn9 + 1) < vN f d0 dn9 * 4294967296; rw [hfd]; exact dp_X hlt)) (cwV0 3 hts lm_Be_130 im_Be_guessWord se_Be_guessWord in_Be kq_Be_guessWord rfl rfl rfl (by decide +kernel) ⟨Nat.le_of_ble_eq_true rfl, Nat.le_of_ble_eq_true rfl⟩) (recvB hKW.1 hP) hKW hP hD hS rfl hl.1 rfl (Nat.le_of_ble_eq_true rfl) d_Be_dividePlain_53 ⟨Nat.zero_le _, Nat.zero_le _⟩ (fun r w1 H locs hp hP hD hS => ?_)
        obtain ⟨ew, q9, er, hq9, hq1, hq2⟩ := hp
        have hq1 : vN f (n0 + i) (dn9 + 1) / vN f d0 dn9 ≤ q9 := hq1
        have hq2 : q9 ≤ vN f (n0 + i) (dn9 + 1) / vN f d0 dn9 + 1 := hq2
        rw [hfd] at hq1 hq2
        rw [ew] at hP hD
        subst er
        refine lv_lstore (lv' := [(8, .long (lN (q9))), (7, .int (nI (i))), (6, .int (nI (nx))), (0, .ref (ad 2)), (1, .int (nI (q0))), (2, .int (nI (n0))), (3, .int (nI (d0))), (4, .int (nI (dn9))), (5, .int (nI (k9)))]) hx hb d_Be_dividePlain_56 hl (by decide) rfl (fun ls hl => ?_)
        refine lv_aload_n hx hb d_Be_dividePlain_58 rfl (lv_at hl 3 rfl) ?_
        refine nw_gR hx hb hts hown hKW.1 hP lf_Be_11 d_Be_dividePlain_59 ?_
        refine lv_iload_n hx hb d_Be_dividePlain_62 rfl (lv_at hl 5 rfl) ?_
        refine lv_iload hx hb d_Be_dividePlain_63 (lv_at hl 1 rfl) ?_
        refine nw_iadd (v := nI (n0 + i)) hx hb d_Be_dividePlain_65 (nI_add _ _) ?_
        refine lv_iload hx hb d_Be_dividePlain_66 (lv_at hl 7 rfl) ?_
        refine nw_iadd (v := nI (n0 + i + dn9)) hx hb d_Be_dividePlain_68 (nI_add _ _) ?_
        refine nw_lR hx hb hKW.1 hP (j := n0 + i + dn9) (by omega) (x := f (n0 + i + dn9)) rfl d_Be_dividePlain_69 ?_
        refine lv_i2l (v := (f (n0 + i + dn9)).toInt64) hx hb d_Be_dividePlain_70 rfl ?_
        refine lv_ldc2 (v := 4294967295) hx hb hown (hA_ hts ll_Be_99) d_Be_dividePlain_71 ?_
        refine nw_land (v := lN (wN ((f (n0 + i + dn9))))) hx hb d_Be_dividePlain_74 (lw_low _) ?_
        refine lv_aload_n hx hb d_Be_dividePlain_75 rfl (lv_at hl 3 rfl) ?_
        refine lv_iload_n hx hb d_Be_dividePlain_76 rfl (lv_at hl 5 rfl) ?_
        refine lv_iload hx hb d_Be_dividePlain_77 (lv_at hl 1 rfl) ?_
        refine nw_iadd (v := nI (n0 + i)) hx hb d_Be_dividePlain_79 (nI_add _ _) ?_
        refine lv_iload_n hx hb d_Be_dividePlain_80 rfl (lv_at hl 6 rfl) ?_
        refine lv_iload hx hb d_Be_dividePlain_81 (lv_at hl 7 rfl) ?_
        refine lv_lload hx hb d_Be_dividePlain_83 (lv_at hl 0 rfl) ?_
        refine wV_l (As := [.int (nI (n0 + i)), .int (nI (d0)), .int (nI (dn9)), .long (lN (q9))]) (rest := [.long (lN (wN ((f (n0 + i + dn9)))))]) (n := 4) ⟨hx, hb, hml, hown, hts⟩ (c_Be_takeProduct l (pR w f) _ (t0 := n0 + i) (s0 := d0) (cnt := dn9) (φ := q9) (by omega) (by omega) (by omega) hq9) (cwV0 4 hts lm_Be_134 im_Be_takeProduct se_Be_takeProduct in_Be kq_Be_takeProduct rfl rfl rfl (by decide +kernel) ⟨Nat.le_of_ble_eq_true rfl, Nat.le_of_ble_eq_true rfl⟩) (recvB hKW.1 hP) hKW hP hD hS rfl hl.1 rfl (Nat.le_of_ble_eq_true rfl) d_Be_dividePlain_85 ⟨Nat.zero_le _, Nat.zero_le _⟩ (fun r w1 H locs hp hP hD hS => ?_)
        obtain ⟨f1, o9, ew, er, ho9, hs1, hv1⟩ := hp
        have hs1 : so f1 f (n0 + i) dn9 := hs1
        have hv1 : vN f1 (n0 + i) dn9 + q9 * vN f d0 dn9 = vN f (n0 + i) dn9 + o9 * 4294967296 ^ dn9 := hv1
        rw [hfd] at hv1
        rw [ew] at hP hD
        subst er
        have hX : vN f (n0 + i) (dn9 + 1) = vN f (n0 + i) dn9 + wN (f (n0 + i + dn9)) * 4294967296 ^ dn9 := vN_sucA _ _ _
        have hV1 := vN_lt f1 (n0 + i) dn9
        have hw := wN_lt (f (n0 + i + dn9))
        refine nw_lsub (v := lZ (((wN (f (n0 + i + dn9)) : Nat) : Int) - (o9 : Int))) hx hb d_Be_dividePlain_88 lZ_pm ?_
        refine lv_lstore (lv' := [(10, .long (lZ (((wN (f (n0 + i + dn9)) : Nat) : Int) - (o9 : Int)))), (8, .long (lN (q9))), (7, .int (nI (i))), (6, .int (nI (nx))), (0, .ref (ad 2)), (1, .int (nI (q0))), (2, .int (nI (n0))), (3, .int (nI (d0))), (4, .int (nI (dn9))), (5, .int (nI (k9)))]) hx hb d_Be_dividePlain_89 hl (by decide) rfl (fun ls hl => ?_)
        refine lv_lload hx hb d_Be_dividePlain_91 (lv_at hl 0 rfl) ?_
        refine lv_lconst (v := lN (0)) hx hb d_Be_dividePlain_93 (by decide) ?_
        refine W.lcmp hx hb d_Be_dividePlain_94 ?_
        refine lv_if_ge (tgt := 123) hx hb d_Be_dividePlain_95 (by decide) (fun c95 => ?_) (fun c95 => ?_)
        · skip
          have c95 : o9 ≤ wN (f (n0 + i + dn9)) := by have := (lZ_ge0 (by omega) (by omega)).mp ((lg_cmp_ge _ _).mp c95); omega
          obtain ⟨hqq, hmo, hto⟩ := dq_pos hX hv1 hV1 (Nat.le_of_lt hDl) hDp hq1 c95
          have hsA := hs1
          refine lv_aload_n hx hb d_Be_dividePlain_123 rfl (lv_at hl 4 rfl) ?_
          refine nw_gR hx hb hts hown hKW.1 hP lf_Be_11 d_Be_dividePlain_124 ?_
          refine lv_iload_n hx hb d_Be_dividePlain_127 rfl (lv_at hl 6 rfl) ?_
          refine lv_iload hx hb d_Be_dividePlain_128 (lv_at hl 2 rfl) ?_
          refine nw_iadd (v := nI (n0 + i)) hx hb d_Be_dividePlain_130 (nI_add _ _) ?_
          refine lv_iload hx hb d_Be_dividePlain_131 (lv_at hl 8 rfl) ?_
          refine nw_iadd (v := nI (n0 + i + dn9)) hx hb d_Be_dividePlain_133 (nI_add _ _) ?_
          refine lv_lload hx hb d_Be_dividePlain_134 (lv_at hl 0 rfl) ?_
          refine lv_l2i (v := (lZ (((wN (f (n0 + i + dn9)) : Nat) : Int) - (o9 : Int))).toInt32) hx hb d_Be_dividePlain_136 rfl ?_
          refine nw_sR hx hb hKW.1 hP hD hS (j := n0 + i + dn9) (by omega) d_Be_dividePlain_137 (fun H locs hP hD hS => ?_)
          refine lv_aload_n hx hb d_Be_dividePlain_138 rfl (lv_at hl 4 rfl) ?_
          refine nw_gR hx hb hts hown hKW.1 hP lf_Be_11 d_Be_dividePlain_139 ?_
          refine lv_iload_n hx hb d_Be_dividePlain_142 rfl (lv_at hl 5 rfl) ?_
          refine lv_iload hx hb d_Be_dividePlain_143 (lv_at hl 2 rfl) ?_
          refine nw_iadd (v := nI (q0 + i)) hx hb d_Be_dividePlain_145 (nI_add _ _) ?_
          refine lv_lload hx hb d_Be_dividePlain_146 (lv_at hl 1 rfl) ?_
          refine lv_l2i (v := nI (q9)) hx hb d_Be_dividePlain_148 (lN_i _) ?_
          refine nw_sR hx hb hKW.1 hP hD hS (j := q0 + i) (by omega) d_Be_dividePlain_149 (fun H locs hP hD hS => ?_)
          refine lv_iinc (v := dn i) (lv' := [(7, .int (dn i)), (10, .long (lZ (((wN (f (n0 + i + dn9)) : Nat) : Int) - (o9 : Int)))), (8, .long (lN (q9))), (6, .int (nI (nx))), (0, .ref (ad 2)), (1, .int (nI (q0))), (2, .int (nI (n0))), (3, .int (nI (d0))), (4, .int (nI (dn9))), (5, .int (nI (k9)))]) hx hb d_Be_dividePlain_150 hl (k := 2) rfl (dn_dec i) (by decide) rfl (fun ls hl => ?_)
          refine lv_goto (tgt := 40) hx hb d_Be_dividePlain_153 (by decide) ?_
          exact ih (upd (upd f1 (n0 + i + dn9) ((lZ (((wN (f (n0 + i + dn9)) : Nat) : Int) - (o9 : Int))).toInt32)) (q0 + i) (nI (q9))) H locs ls (by omega) (dp_step hj hinv (by rw [vN_out (by omega), vN_out (by omega), hsA.vN (Or.inl (by omega))]) (by rw [vN_out (by omega), vN_out (by omega), hsA.vN (by omega)]) (by rw [vN_out (by omega), vN_out (by omega), hmo]) (by rw [pk_us, wN_nI, Nat.mod_eq_of_lt (by omega), hqq])) (by rw [vN_out (by omega), vN_out (by omega), hmo]; exact Nat.mod_lt _ hDp) (fun x p1 p2 => by rw [pk_un (by omega), pk_un (by omega), hsA x (by omega)]; exact hso x p1 p2) hP hD hS (lv_sub hl [0, 3, 4, 5, 6, 7, 8, 9] rfl)
        · skip
          have c95 : wN (f (n0 + i + dn9)) < o9 := Nat.not_le.mp (fun h => c95 ((lg_cmp_ge _ _).mpr ((lZ_ge0 (by omega) (by omega)).mpr (by omega))))
          have hq0 : 1 ≤ q9 := by
            rcases Nat.eq_zero_or_pos q9 with z | z
            · exfalso
              rw [z, Nat.zero_mul] at hv1
              have : 1 * 4294967296 ^ dn9 ≤ o9 * 4294967296 ^ dn9 := Nat.mul_le_mul_right _ (by omega)
              omega
            · exact z
          refine lv_lload hx hb d_Be_dividePlain_98 (lv_at hl 1 rfl) ?_
          refine lv_lconst (v := lN (1)) hx hb d_Be_dividePlain_100 (by decide) ?_
          refine nw_lsub (v := lN (q9 - 1)) hx hb d_Be_dividePlain_101 (lN_sub hq0) ?_
          refine lv_lstore (lv' := [(8, .long (lN (q9 - 1))), (10, .long (lZ (((wN (f (n0 + i + dn9)) : Nat) : Int) - (o9 : Int)))), (7, .int (nI (i))), (6, .int (nI (nx))), (0, .ref (ad 2)), (1, .int (nI (q0))), (2, .int (nI (n0))), (3, .int (nI (d0))), (4, .int (nI (dn9))), (5, .int (nI (k9)))]) hx hb d_Be_dividePlain_102 hl (by decide) rfl (fun ls hl => ?_)
          refine lv_lload hx hb d_Be_dividePlain_104 (lv_at hl 1 rfl) ?_
          refine lv_aload_n hx hb d_Be_dividePlain_106 rfl (lv_at hl 4 rfl) ?_
          refine lv_iload_n hx hb d_Be_dividePlain_107 rfl (lv_at hl 6 rfl) ?_
          refine lv_iload hx hb d_Be_dividePlain_108 (lv_at hl 2 rfl) ?_
          refine nw_iadd (v := nI (n0 + i)) hx hb d_Be_dividePlain_110 (nI_add _ _) ?_
          refine lv_iload hx hb d_Be_dividePlain_111 (lv_at hl 8 rfl) ?_
          refine lv_iload_n hx hb d_Be_dividePlain_113 rfl (lv_at hl 7 rfl) ?_
          refine lv_iload hx hb d_Be_dividePlain_114 (lv_at hl 8 rfl) ?_
          have hf1d : vN f1 d0 dn9 = vN (sR w) d0 dn9 := (hs1.vN (by omega)).trans hfd
          refine wV_i (As := [.int (nI (n0 + i)), .int (nI (dn9)), .int (nI (d0)), .int (nI (dn9))]) (rest := [.long (lZ (((wN (f (n0 + i + dn9)) : Nat) : Int) - (o9 : Int)))]) (n := 4) ⟨hx, hb, hml, hown, hts⟩ (c_Be_addInto l (pR w f1) _ (t0 := n0 + i) (tc := dn9) (s0 := d0) (cnt := dn9) (by omega) (by omega) (by omega) (by omega)) (cwV0 4 hts lm_Be_105 im_Be_addInto se_Be_addInto in_Be kq_Be_addInto rfl rfl rfl (by decide +kernel) ⟨Nat.le_of_ble_eq_true rfl, Nat.le_of_ble_eq_true rfl⟩) (recvB hKW.1 hP) hKW hP hD hS rfl hl.1 rfl (Nat.le_of_ble_eq_true rfl) d_Be_dividePlain_116 ⟨Nat.zero_le _, Nat.zero_le _⟩ (fun r w1 H locs hp hP hD hS => ?_)
          obtain ⟨f2, cy, ew, er, hcy, hs2, hv2⟩ := hp
          have hs2 : so f2 f1 (n0 + i) dn9 := hs2
          have hv2 : vN f2 (n0 + i) dn9 + cy * 4294967296 ^ dn9 = vN f1 (n0 + i) dn9 + vN f1 d0 dn9 := hv2
          rw [hf1d] at hv2
          rw [ew] at hP hD
          subst er
          obtain ⟨_, hqq, hmo, hto⟩ := dq_neg hX hv1 hV1 (Nat.le_of_lt hDl) hDp hq2 c95 hv2 (vN_lt _ _ _)
          have hsA := hs2.trans hs1
          refine lv_i2l (v := lZ (cy : Int)) hx hb d_Be_dividePlain_119 (nI_l1 hcy) ?_
          refine nw_ladd (v := lZ (((wN (f (n0 + i + dn9)) : Nat) : Int) - (o9 : Int) + (cy : Int))) hx hb d_Be_dividePlain_120 (lZ_add _ _) ?_
          refine lv_lstore (lv' := [(10, .long (lZ (((wN (f (n0 + i + dn9)) : Nat) : Int) - (o9 : Int) + (cy : Int)))), (8, .long (lN (q9 - 1))), (7, .int (nI (i))), (6, .int (nI (nx))), (0, .ref (ad 2)), (1, .int (nI (q0))), (2, .int (nI (n0))), (3, .int (nI (d0))), (4, .int (nI (dn9))), (5, .int (nI (k9)))]) hx hb d_Be_dividePlain_121 hl (by decide) rfl (fun ls hl => ?_)
          refine lv_aload_n hx hb d_Be_dividePlain_123 rfl (lv_at hl 4 rfl) ?_
          refine nw_gR hx hb hts hown hKW.1 hP lf_Be_11 d_Be_dividePlain_124 ?_
          refine lv_iload_n hx hb d_Be_dividePlain_127 rfl (lv_at hl 6 rfl) ?_
          refine lv_iload hx hb d_Be_dividePlain_128 (lv_at hl 2 rfl) ?_
          refine nw_iadd (v := nI (n0 + i)) hx hb d_Be_dividePlain_130 (nI_add _ _) ?_
          refine lv_iload hx hb d_Be_dividePlain_131 (lv_at hl 8 rfl) ?_
          refine nw_iadd (v := nI (n0 + i + dn9)) hx hb d_Be_dividePlain_133 (nI_add _ _) ?_
          refine lv_lload hx hb d_Be_dividePlain_134 (lv_at hl 0 rfl) ?_
          refine lv_l2i (v := (lZ (((wN (f (n0 + i + dn9)) : Nat) : Int) - (o9 : Int) + (cy : Int))).toInt32) hx hb d_Be_dividePlain_136 rfl ?_
          refine nw_sR hx hb hKW.1 hP hD hS (j := n0 + i + dn9) (by omega) d_Be_dividePlain_137 (fun H locs hP hD hS => ?_)
          refine lv_aload_n hx hb d_Be_dividePlain_138 rfl (lv_at hl 4 rfl) ?_
          refine nw_gR hx hb hts hown hKW.1 hP lf_Be_11 d_Be_dividePlain_139 ?_
          refine lv_iload_n hx hb d_Be_dividePlain_142 rfl (lv_at hl 5 rfl) ?_
          refine lv_iload hx hb d_Be_dividePlain_143 (lv_at hl 2 rfl) ?_
          refine nw_iadd (v := nI (q0 + i)) hx hb d_Be_dividePlain_145 (nI_add _ _) ?_
          refine lv_lload hx hb d_Be_dividePlain_146 (lv_at hl 1 rfl) ?_
          refine lv_l2i (v := nI (q9 - 1)) hx hb d_Be_dividePlain_148 (lN_i _) ?_
          refine nw_sR hx hb hKW.1 hP hD hS (j := q0 + i) (by omega) d_Be_dividePlain_149 (fun H locs hP hD hS => ?_)
          refine lv_iinc (v := dn i) (lv' := [(7, .int (dn i)), (10, .long (lZ (((wN (f (n0 + i + dn9)) : Nat) : Int) - (o9 : Int) + (cy : Int)))), (8, .long (lN (q9 - 1))), (6, .int (nI (nx))), (0, .ref (ad 2)), (1, .int (nI (q0))), (2, .int (nI (n0))), (3, .int (nI (d0))), (4, .int (nI (dn9))), (5, .int (nI (k9)))]) hx hb d_Be_dividePlain_150 hl (k := 2) rfl (dn_dec i) (by decide) rfl (fun ls hl => ?_)
          refine lv_goto (tgt := 40) hx hb d_Be_dividePlain_153 (by decide) ?_
          exact ih (upd (upd f2 (n0 + i + dn9) ((lZ (((wN (f (n0 + i + dn9)) : Nat) : Int) - (o9 : Int) + (cy : Int))).toInt32)) (q0 + i) (nI (q9 - 1))) H locs ls (by omega) (dp_step hj hinv (by rw [vN_out (by omega), vN_out (by omega), hsA.vN (Or.inl (by omega))]) (by rw [vN_out (by omega), vN_out (by omega), hsA.vN (by omega)]) (by rw [vN_out (by omega), vN_out (by omega), hmo]) (by rw [pk_us, wN_nI, Nat.mod_eq_of_lt (by omega), hqq])) (by rw [vN_out (by omega), vN_out (by omega), hmo]; exact Nat.mod_lt _ hDp) (fun x p1 p2 => by rw [pk_un (by omega), pk_un (by omega), hsA x (by omega)]; exact hso x p1 p2) hP hD hS (lv_sub hl [0, 3, 4, 5, 6, 7, 8, 9] rfl)
  refine lv_iconst (v := nI (0)) hx hb d_Be_dividePlain_0 (by decide) ?_
  refine lv_istore (lv' := [(6, .int (nI (0))), (0, .ref (ad 2)), (1, .int (nI (q0))), (2, .int (nI (n0))), (3, .int (nI (d0))), (4, .int (nI (dn9))), (5, .int (nI (k9)))]) hx hb d_Be_dividePlain_1 hl (by decide) rfl (fun ls hl => ?_)
  refine lv_aload_n hx hb d_Be_dividePlain_3 rfl (lv_at hl 1 rfl) ?_
  refine lv_iload_n hx hb d_Be_dividePlain_4 rfl (lv_at hl 3 rfl) ?_
  refine lv_iload hx hb d_Be_dividePlain_5 (lv_at hl 6 rfl) ?_
  refine nw_iadd (v := nI (n0 + k9)) hx hb d_Be_dividePlain_7 (nI_add _ _) ?_
  refine lv_iload_n hx hb d_Be_dividePlain_8 rfl (lv_at hl 4 rfl) ?_
  refine lv_iload hx hb d_Be_dividePlain_9 (lv_at hl 5 rfl) ?_
  refine wV_i (As := [.int (nI (n0 + k9)), .int (nI (d0)), .int (nI (dn9))]) (rest := []) (n := 3) ⟨hx, hb, hml, hown, hts⟩ (c_Be_isNotLess l w _ (a0 := n0 + k9) (b0 := d0) (cnt := dn9) (by omega) (by omega)) (cwV0 3 hts lm_Be_126 im_Be_isNotLess se_Be_isNotLess in_Be kq_Be_isNotLess rfl rfl rfl (by decide +kernel) ⟨Nat.le_of_ble_eq_true rfl, Nat.le_of_ble_eq_true rfl⟩) (recvB hKW.1 hP) hKW hP hD hS rfl hl.1 rfl (Nat.le_of_ble_eq_true rfl) d_Be_dividePlain_11 ⟨Nat.zero_le _, Nat.zero_le _⟩ (fun r w1 H locs hp hP hD hS => ?_)
  obtain ⟨er, ew⟩ := hp
  rw [ew] at hP hD
  subst er
  rcases Nat.lt_or_ge (vN (sR w) (n0 + k9) dn9) (vN (sR w) d0 dn9) with hc | hc
  · skip
    rw [if_neg (by omega)]
    refine lv_if_eq (tgt := 34) hx hb d_Be_dividePlain_14 (by decide) (fun c14 => ?_) (fun c14 => ?_)
    · skip
      refine lv_iload hx hb d_Be_dividePlain_34 (lv_at hl 6 rfl) ?_
      refine lv_iconst (v := nI (1)) hx hb d_Be_dividePlain_36 (by decide) ?_
      refine nw_isub (v := dn k9) hx hb d_Be_dividePlain_37 (dn_sub _) ?_
      refine lv_istore (lv' := [(7, .int (dn k9)), (6, .int (nI (0))), (0, .ref (ad 2)), (1, .int (nI (q0))), (2, .int (nI (n0))), (3, .int (nI (d0))), (4, .int (nI (dn9))), (5, .int (nI (k9)))]) hx hb d_Be_dividePlain_38 hl (by decide) rfl (fun ls hl => ?_)
      exact loop 0 (by omega) k9 (sR w) H locs ls (Nat.le_refl _) (by rw [Nat.zero_mul, Nat.sub_self, vN_0, Nat.zero_mul, Nat.zero_mul, Nat.zero_add]) hc (so2_refl _ _ _ _ _) hP hD hS (lv_sub hl [0, 1, 2, 3, 4, 5, 6, 7] rfl)
    · exact absurd nI_0 c14
  · skip
    rw [if_pos hc]
    refine lv_if_eq (tgt := 34) hx hb d_Be_dividePlain_14 (by decide) (fun c14 => ?_) (fun c14 => ?_)
    · exact absurd c14 (by decide)
    · skip
      refine lv_aload_n hx hb d_Be_dividePlain_17 rfl (lv_at hl 1 rfl) ?_
      refine lv_iload_n hx hb d_Be_dividePlain_18 rfl (lv_at hl 3 rfl) ?_
      refine lv_iload hx hb d_Be_dividePlain_19 (lv_at hl 6 rfl) ?_
      refine nw_iadd (v := nI (n0 + k9)) hx hb d_Be_dividePlain_21 (nI_add _ _) ?_
      refine lv_iload hx hb d_Be_dividePlain_22 (lv_at hl 5 rfl) ?_
      refine lv_iload_n hx hb d_Be_dividePlain_24 rfl (lv_at hl 4 rfl) ?_
      refine lv_iload hx hb d_Be_dividePlain_25 (lv_at hl 5 rfl) ?_
      refine wV_i (As := [.int (nI (n0 + k9)), .int (nI (dn9)), .int (nI (d0)), .int (nI (dn9))]) (rest := []) (n := 4) ⟨hx, hb, hml, hown, hts⟩ (c_Be_takeFrom l w _ (t0 := n0 + k9) (tc := dn9) (s0 := d0) (cnt := dn9) (by omega) (by omega) (by omega) (by omega)) (cwV0 4 hts lm_Be_113 im_Be_takeFrom se_Be_takeFrom in_Be kq_Be_takeFrom rfl rfl rfl (by decide +kernel) ⟨Nat.le_of_ble_eq_true rfl, Nat.le_of_ble_eq_true rfl⟩) (recvB hKW.1 hP) hKW hP hD hS rfl hl.1 rfl (Nat.le_of_ble_eq_true rfl) d_Be_dividePlain_27 ⟨Nat.zero_le _, Nat.zero_le _⟩ (fun r w1 H locs hp hP hD hS => ?_)
      obtain ⟨f1, o9, ew, er, ho9, hs1, hv1⟩ := hp
      rw [ew] at hP hD
      subst er
      have hz : o9 = 0 := by
        rcases Nat.eq_zero_or_pos o9 with z | z
        · exact z
        · have : 1 * 4294967296 ^ dn9 ≤ o9 * 4294967296 ^ dn9 := Nat.mul_le_mul_right _ z
          have := vN_lt f1 (n0 + k9) dn9
          omega
      have hU := vN_lt (sR w) (n0 + k9) dn9
      rw [hz, Nat.zero_mul, Nat.add_zero] at hv1
      refine lv_pop hx hb d_Be_dividePlain_30 rfl ?_
      refine lv_iconst (v := nI (1)) hx hb d_Be_dividePlain_31 (by decide) ?_
      refine lv_istore (lv' := [(6, .int (nI (1))), (0, .ref (ad 2)), (1, .int (nI (q0))), (2, .int (nI (n0))), (3, .int (nI (d0))), (4, .int (nI (dn9))), (5, .int (nI (k9)))]) hx hb d_Be_dividePlain_32 hl (by decide) rfl (fun ls hl => ?_)
      refine lv_iload hx hb d_Be_dividePlain_34 (lv_at hl 6 rfl) ?_
      refine lv_iconst (v := nI (1)) hx hb d_Be_dividePlain_36 (by decide) ?_
      refine nw_isub (v := dn k9) hx hb d_Be_dividePlain_37 (dn_sub _) ?_
      refine lv_istore (lv' := [(7, .int (dn k9)), (6, .int (nI (1))), (0, .ref (ad 2)), (1, .int (nI (q0))), (2, .int (nI (n0))), (3, .int (nI (d0))), (4, .int (nI (dn9))), (5, .int (nI (k9)))]) hx hb d_Be_dividePlain_38 hl (by decide) rfl (fun ls hl => ?_)
      exact loop 1 (by omega) k9 f1 H locs ls (Nat.le_refl _) (by rw [Nat.one_mul, Nat.sub_self, vN_0, Nat.pow_zero, Nat.add_zero, Nat.one_mul, Nat.add_comm dn9 k9, vN_add, vN_add f1, hs1.vN (Or.inl (by omega)), ← hv1, Nat.mul_add, Nat.mul_comm _ (4294967296 ^ k9)]; omega) (by omega) (hs1.l2 (by omega) (by omega)) hP hD hS (lv_sub hl [0, 1, 2, 3, 4, 5, 6, 7] rfl)

/-! THE BENCH: divideByHead, divideRun (rows laid by wip/whole/gen/c_be8.py) -/
set_option maxHeartbeats 4000000 in
set_option maxRecDepth 100000 in
/-- divideByHead(q, n, d, dn, k, free, halvings) -/
theorem c_Be_divideByHead (l : Launch) {D : va_G} {cI cB cR : ClassId} {ad : Nat → Nat} (w : St) (sz : Nat) {q0 n0 d0 dn9 k9 fr h9 : Nat} (hM : DivAt l D cI cB cR ad h9) (hk1 : 1 ≤ k9) (hk2 : k9 < dn9) (hh9 : h9 ≤ 100) (h1 : n0 + dn9 + k9 ≤ fr) (h2 : d0 + dn9 ≤ fr) (h3 : q0 + k9 ≤ fr) (hnd : n0 + dn9 + k9 ≤ d0 ∨ d0 + dn9 ≤ n0) (hnq : n0 + dn9 + k9 ≤ q0 ∨ q0 + k9 ≤ n0) (hdq : d0 + dn9 ≤ q0 ∨ q0 + k9 ≤ d0) (htop : 2147483648 ≤ wN (sR w (d0 + dn9 - 1))) (hf9 : fr ≤ 28672) (hE : 2 * (fr + dn9) + 4 * max k9 (dn9 - k9) + 86 ≤ 57344 ∨ 2 * (fr + dn9) + 3 * max k9 (dn9 - k9) + 2 * min k9 (dn9 - k9) + 90 ≤ 57344) : Met l y_Be_divideByHead (q_Be_divideByHead :: wA) { frames := 2 * h9 + 51, cells := 0, slots := 0, locals := 80 * h9 + 1890 } (va_Pc [.ref (ad 2), .int (nI (q0)), .int (nI (n0)), .int (nI (d0)), .int (nI (dn9)), .int (nI (k9)), .int (nI (fr)), .int (nI (h9))] (PW D cI cB cR ad w sz)) (va_Qi (fun (r : Int32) (w1 : St) => ∃ (f : Nat → Int32) (nx : Nat), w1 = pR w f ∧ r = nI nx ∧ nx ≤ 1 ∧ so3 f (sR w) n0 (dn9 + k9) q0 k9 fr (28672 - fr) ∧ nx * 4294967296 ^ k9 + vN f q0 k9 = vN (sR w) n0 (dn9 + k9) / vN (sR w) d0 dn9 ∧ vN f n0 dn9 = vN (sR w) n0 (dn9 + k9) % vN (sR w) d0 dn9) (BW D cI cB cR ad) (AA ad sz)) 0 0 (AA ad sz) := by
  refine Met.ofW (cc := b_Be_divideByHead) (maxL := 12) (ret := (some (.int))) (by decide) rfl ?_
  intro p e s m args below meth c s₁ B hml hv
  obtain ⟨rfl, hsz, hP, hD0, hKW⟩ := hv
  have hx := B.exec
  have hb := B.bytes
  have hr := B.returns
  have hts := atoms_spec (ws := q_Be_divideByHead :: wA) B.pre
  have hown : s.vm.findClass R_Be = some m.cls := findClass_of_methodNamed B.named
  have hlocks := B.notSynchronized
  subst hsz
  have hD := NC_AA (sz := s.heap.size) hD0
  have hS : va_S (AA ad s.heap.size) s.heap s.heap [] := va_S.rf
  have hl := lv_entry ([.ref (ad 2), .int (nI (q0)), .int (nI (n0)), .int (nI (d0)), .int (nI (dn9)), .int (nI (k9)), .int (nI (fr)), .int (nI (h9))]) (n := 12) (Nat.le_of_ble_eq_true rfl)
  rw [lg_entry_eq]
  generalize (lg_sl ([.ref (ad 2), .int (nI (q0)), .int (nI (n0)), .int (nI (d0)), .int (nI (dn9)), .int (nI (k9)), .int (nI (fr)), .int (nI (h9))]) ++ List.replicate (12 - (lg_sl ([.ref (ad 2), .int (nI (q0)), .int (nI (n0)), .int (nI (d0)), .int (nI (dn9)), .int (nI (k9)), .int (nI (fr)), .int (nI (h9))])).length) Slot.unset).toArray = ls at hl ⊢
  have hl : lv_has ls 12 [(0, .ref (ad 2)), (1, .int (nI (q0))), (2, .int (nI (n0))), (3, .int (nI (d0))), (4, .int (nI (dn9))), (5, .int (nI (k9))), (6, .int (nI (fr))), (7, .int (nI (h9)))] := hl
  have hDp := pos_D (by omega) htop
  have hDh := half_D (by omega) htop
  refine lv_iload hx hb d_Be_divideByHead_0 (lv_at hl 4 rfl) ?_
  refine lv_iload hx hb d_Be_divideByHead_2 (lv_at hl 5 rfl) ?_
  refine nw_isub (v := nI (dn9 - k9)) hx hb d_Be_divideByHead_4 (pk_sub (by omega)) ?_
  obtain ⟨tl9, htl⟩ : ∃ tl9, tl9 = dn9 - k9 := ⟨_, rfl⟩
  rw [← htl]
  have htl2 : dn9 = tl9 + k9 := by omega
  obtain ⟨Q9, hQ9⟩ : ∃ Q9, Q9 = vN (sR w) n0 (dn9 + k9) / vN (sR w) d0 dn9 := ⟨_, rfl⟩
  have loop : ∀ (n i ow nx : Nat) (f : Nat → Int32) (H : Heap) (locs : List Loc) (ls : Array Slot), i + n = 4 → nx ≤ 1 → ow ≤ 2 → vN (sR w) n0 (dn9 + k9) + ow * 4294967296 ^ dn9 = (nx * 4294967296 ^ k9 + vN (f) q0 k9) * vN (sR w) d0 dn9 + vN f n0 dn9 → (ow = 0 → vN f n0 dn9 < vN (sR w) d0 dn9) → (nx * 4294967296 ^ k9 + vN (f) q0 k9) + i ≤ Q9 + 4 → so3 f (sR w) n0 (dn9 + k9) q0 k9 fr (28672 - fr) → va_P D clA (NC cI cB cR ad (pR w f)) H → va_D (AA ad s.heap.size) (NC cI cB cR ad (pR w f)) → va_S (AA ad s.heap.size) s.heap H locs → lv_has ls 12 [(11, .int (nI (i))), (10, .int (nI (ow))), (9, .int (nI (nx))), (8, .int (nI (tl9))), (0, .ref (ad 2)), (1, .int (nI (q0))), (2, .int (nI (n0))), (3, .int (nI (d0))), (4, .int (nI (dn9))), (5, .int (nI (k9))), (6, .int (nI (fr))), (7, .int (nI (h9)))] → W p l e (headSpec (q_Be_divideByHead :: wA) { frames := 2 * h9 + 51, cells := 0, slots := 0, locals := 80 * h9 + 1890 }).room s m ([.ref (ad 2), .int (nI (q0)), .int (nI (n0)), .int (nI (d0)), .int (nI (dn9)), .int (nI (k9)), .int (nI (fr)), .int (nI (h9))] : List Value).toArray below meth c H locs 0 0 (MQ below (va_Qi (fun (r : Int32) (w1 : St) => ∃ (f : Nat → Int32) (nx : Nat), w1 = pR w f ∧ r = nI nx ∧ nx ≤ 1 ∧ so3 f (sR w) n0 (dn9 + k9) q0 k9 fr (28672 - fr) ∧ nx * 4294967296 ^ k9 + vN f q0 k9 = vN (sR w) n0 (dn9 + k9) / vN (sR w) d0 dn9 ∧ vN f n0 dn9 = vN (sR w) n0 (dn9 + k9) % vN (sR w) d0 dn9) (BW D cI cB cR ad) (AA ad s.heap.size)) ([.ref (ad 2), .int (nI (q0)), .int (nI (n0)), .int (nI (d0)), .int (nI (dn9)), .int (nI (k9)), .int (nI (fr)), .int (nI (h9))] : List Value).toArray s 0 0 (AA ad s.heap.size)) (F0 m 88 ls []) := by
    clear hE
    intro n
    induction n with
    | zero =>
      intro i ow nx f H locs ls hj hnx how hinv h0 hb4 hso hP hD hS hl
      refine lv_iload hx hb d_Be_divideByHead_88 (lv_at hl 0 rfl) ?_
      refine lv_iconst (v := nI (4)) hx hb d_Be_divideByHead_90 (by decide) ?_
      refine lv_icmp_ge (tgt := 132) hx hb d_Be_divideByHead_91 (by decide) (fun c91 => ?_) (fun c91 => ?_)
      · skip
        have hz0 : ow = 0 := by
          rcases Nat.eq_zero_or_pos ow with z | z
          · exact z
          · have h7 := hd_gt hinv (vN_lt _ _ _) z hDp
            rw [← hQ9] at h7
            omega
        refine lv_iload hx hb d_Be_divideByHead_132 (lv_at hl 2 rfl) ?_
        have hz := hd_end hinv hz0 (h0 hz0)
        exact W.iret (v := nI (nx)) hx hb hr (fun t ht hW => ⟨⟨_, pR w f, rfl, ⟨f, nx, rfl, rfl, hnx, hso, hz.1, hz.2⟩, BW_of ht hP⟩, hS.F ht⟩) hS.2.2 d_Be_divideByHead_134
      · exact absurd (nI_le (by omega) (by omega)) c91
    | succ n ih =>
      intro i ow nx f H locs ls hj hnx how hinv h0 hb4 hso hP hD hS hl
      refine lv_iload hx hb d_Be_divideByHead_88 (lv_at hl 0 rfl) ?_
      refine lv_iconst (v := nI (4)) hx hb d_Be_divideByHead_90 (by decide) ?_
      refine lv_icmp_ge (tgt := 132) hx hb d_Be_divideByHead_91 (by decide) (fun c91 => ?_) (fun c91 => ?_)
      · exact absurd c91 (nI_ge (by omega) (by omega))
      · skip
        refine lv_iload hx hb d_Be_divideByHead_94 (lv_at hl 1 rfl) ?_
        refine lv_if_le (tgt := 132) hx hb d_Be_divideByHead_96 (by decide) (fun c96 => ?_) (fun c96 => ?_)
        · skip
          have c96 : ow ≤ 0 := (nI_leI (by omega) (by omega)).mp (by rw [nI_0]; exact c96)
          refine lv_iload hx hb d_Be_divideByHead_132 (lv_at hl 2 rfl) ?_
          have hz := hd_end hinv (Nat.le_zero.mp c96) (h0 (Nat.le_zero.mp c96))
          exact W.iret (v := nI (nx)) hx hb hr (fun t ht hW => ⟨⟨_, pR w f, rfl, ⟨f, nx, rfl, rfl, hnx, hso, hz.1, hz.2⟩, BW_of ht hP⟩, hS.F ht⟩) hS.2.2 d_Be_divideByHead_134
        · skip
          have c96 : ¬ (ow ≤ 0) := fun h => c96 (by have := (nI_leI (by omega) (by omega)).mpr h; rwa [nI_0] at this)
          have hgt := hd_gt hinv (vN_lt _ _ _) (show 1 ≤ ow by omega) hDp
          rw [← hQ9] at hgt
          refine lv_iload hx hb d_Be_divideByHead_99 (lv_at hl 2 rfl) ?_
          refine lv_aload_n hx hb d_Be_divideByHead_101 rfl (lv_at hl 4 rfl) ?_
          refine lv_iload_n hx hb d_Be_divideByHead_102 rfl (lv_at hl 5 rfl) ?_
          refine lv_iload hx hb d_Be_divideByHead_103 (lv_at hl 9 rfl) ?_
          refine wV_i (As := [.int (nI (q0)), .int (nI (k9))]) (rest := [.int (nI (nx))]) (n := 2) ⟨hx, hb, hml, hown, hts⟩ (c_Be_takeOne l (pR w f) _ (t0 := q0) (cnt := k9) (by omega)) (cwV0 2 hts lm_Be_123 im_Be_takeOne se_Be_takeOne in_Be kq_Be_takeOne rfl rfl rfl (by decide +kernel) ⟨by simp only [headSpec]; omega, by simp only [headSpec]; omega⟩) (recvB hKW.1 hP) hKW hP hD hS rfl hl.1 rfl (Nat.le_of_ble_eq_true rfl) d_Be_divideByHead_105 ⟨Nat.zero_le _, Nat.zero_le _⟩ (fun r w1 H locs hp hP hD hS => ?_)
          obtain ⟨f1, o1, ew, er, ho1, hs1, hv1⟩ := hp
          have hs1 : so f1 f q0 k9 := hs1
          have hv1 : vN f1 q0 k9 + 1 = vN f q0 k9 + o1 * 4294967296 ^ k9 := hv1
          rw [ew] at hP hD
          subst er
          obtain ⟨hon, hqq⟩ := hd_one (nx := nx) (Nat.lt_of_le_of_lt (Nat.zero_le _) hgt) hv1 (vN_lt _ _ _) ho1
          refine nw_isub (v := nI (nx - o1)) hx hb d_Be_divideByHead_108 (pk_sub (by omega)) ?_
          refine lv_istore (lv' := [(9, .int (nI (nx - o1))), (11, .int (nI (i))), (10, .int (nI (ow))), (8, .int (nI (tl9))), (0, .ref (ad 2)), (1, .int (nI (q0))), (2, .int (nI (n0))), (3, .int (nI (d0))), (4, .int (nI (dn9))), (5, .int (nI (k9))), (6, .int (nI (fr))), (7, .int (nI (h9)))]) hx hb d_Be_divideByHead_109 hl (by decide) rfl (fun ls hl => ?_)
          refine lv_iload hx hb d_Be_divideByHead_111 (lv_at hl 2 rfl) ?_
          refine lv_aload_n hx hb d_Be_divideByHead_113 rfl (lv_at hl 4 rfl) ?_
          refine lv_iload_n hx hb d_Be_divideByHead_114 rfl (lv_at hl 6 rfl) ?_
          refine lv_iload hx hb d_Be_divideByHead_115 (lv_at hl 8 rfl) ?_
          refine lv_iload_n hx hb d_Be_divideByHead_117 rfl (lv_at hl 7 rfl) ?_
          refine lv_iload hx hb d_Be_divideByHead_118 (lv_at hl 8 rfl) ?_
          have hf1d : vN f1 d0 dn9 = vN (sR w) d0 dn9 := (hs1.vN (by omega)).trans (hso.vN (by omega) (by omega) (by omega))
          have hf1n : vN f1 n0 dn9 = vN f n0 dn9 := hs1.vN (by omega)
          refine wV_i (As := [.int (nI (n0)), .int (nI (dn9)), .int (nI (d0)), .int (nI (dn9))]) (rest := [.int (nI (ow))]) (n := 4) ⟨hx, hb, hml, hown, hts⟩ (c_Be_addInto l (pR w f1) _ (t0 := n0) (tc := dn9) (s0 := d0) (cnt := dn9) (by omega) (by omega) (by omega) (by omega)) (cwV0 4 hts lm_Be_105 im_Be_addInto se_Be_addInto in_Be kq_Be_addInto rfl rfl rfl (by decide +kernel) ⟨by simp only [headSpec]; omega, by simp only [headSpec]; omega⟩) (recvB hKW.1 hP) hKW hP hD hS rfl hl.1 rfl (Nat.le_of_ble_eq_true rfl) d_Be_divideByHead_120 ⟨Nat.zero_le _, Nat.zero_le _⟩ (fun r w1 H locs hp hP hD hS => ?_)
          obtain ⟨f2, cy, ew, er, hcy, hs2, hv2⟩ := hp
          have hs2 : so f2 f1 n0 dn9 := hs2
          have hv2 : vN f2 n0 dn9 + cy * 4294967296 ^ dn9 = vN f1 n0 dn9 + vN f1 d0 dn9 := hv2
          rw [hf1d, hf1n] at hv2
          rw [ew] at hP hD
          subst er
          have hq2 : vN f2 q0 k9 = vN f1 q0 k9 := hs2.vN (by omega)
          rw [← hq2] at hqq
          refine nw_isub (v := nI (ow - cy)) hx hb d_Be_divideByHead_123 (pk_sub (by omega)) ?_
          refine lv_istore (lv' := [(10, .int (nI (ow - cy))), (9, .int (nI (nx - o1))), (11, .int (nI (i))), (8, .int (nI (tl9))), (0, .ref (ad 2)), (1, .int (nI (q0))), (2, .int (nI (n0))), (3, .int (nI (d0))), (4, .int (nI (dn9))), (5, .int (nI (k9))), (6, .int (nI (fr))), (7, .int (nI (h9)))]) hx hb d_Be_divideByHead_124 hl (by decide) rfl (fun ls hl => ?_)
          refine lv_iinc (v := nI (i + 1)) (lv' := [(11, .int (nI (i + 1))), (10, .int (nI (ow - cy))), (9, .int (nI (nx - o1))), (8, .int (nI (tl9))), (0, .ref (ad 2)), (1, .int (nI (q0))), (2, .int (nI (n0))), (3, .int (nI (d0))), (4, .int (nI (dn9))), (5, .int (nI (k9))), (6, .int (nI (fr))), (7, .int (nI (h9)))]) hx hb d_Be_divideByHead_126 hl (k := 2) rfl (nI_add _ 1) (by decide) rfl (fun ls hl => ?_)
          refine lv_goto (tgt := 88) hx hb d_Be_divideByHead_129 (by decide) ?_
          exact ih (i + 1) (ow - cy) (nx - o1) f2 H locs ls (by omega) (by omega) (by omega) (hd_step hinv hqq hv2 (by omega)) (fun z => hd_step0 (by omega) hv2 (vN_lt _ _ _) hcy z) (by omega) (fun q p1 p2 p3 => by rw [hs2 q (by omega), hs1 q (by omega)]; exact hso q p1 p2 p3) hP hD hS (lv_sub hl [0, 1, 2, 3, 4, 5, 6, 7, 8, 9, 10, 11] rfl)
  refine lv_istore (lv' := [(8, .int (nI (tl9))), (0, .ref (ad 2)), (1, .int (nI (q0))), (2, .int (nI (n0))), (3, .int (nI (d0))), (4, .int (nI (dn9))), (5, .int (nI (k9))), (6, .int (nI (fr))), (7, .int (nI (h9)))]) hx hb d_Be_divideByHead_5 hl (by decide) rfl (fun ls hl => ?_)
  refine lv_aload_n hx hb d_Be_divideByHead_7 rfl (lv_at hl 1 rfl) ?_
  refine lv_iload_n hx hb d_Be_divideByHead_8 rfl (lv_at hl 2 rfl) ?_
  refine lv_iload_n hx hb d_Be_divideByHead_9 rfl (lv_at hl 3 rfl) ?_
  refine lv_iload hx hb d_Be_divideByHead_10 (lv_at hl 0 rfl) ?_
  refine nw_iadd (v := nI (n0 + tl9)) hx hb d_Be_divideByHead_12 (nI_add _ _) ?_
  refine lv_iload_n hx hb d_Be_divideByHead_13 rfl (lv_at hl 4 rfl) ?_
  refine lv_iload hx hb d_Be_divideByHead_14 (lv_at hl 0 rfl) ?_
  refine nw_iadd (v := nI (d0 + tl9)) hx hb d_Be_divideByHead_16 (nI_add _ _) ?_
  refine lv_iload hx hb d_Be_divideByHead_17 (lv_at hl 6 rfl) ?_
  refine lv_iload hx hb d_Be_divideByHead_19 (lv_at hl 6 rfl) ?_
  refine lv_iload hx hb d_Be_divideByHead_21 (lv_at hl 7 rfl) ?_
  refine lv_iload hx hb d_Be_divideByHead_23 (lv_at hl 8 rfl) ?_
  have hw9 : wN (sR w (d0 + tl9 + k9 - 1)) = wN (sR w (d0 + dn9 - 1)) := by rw [show d0 + tl9 + k9 - 1 = d0 + dn9 - 1 by omega]
  refine wV_i (As := [.int (nI (q0)), .int (nI (n0 + tl9)), .int (nI (d0 + tl9)), .int (nI (k9)), .int (nI (k9)), .int (nI (fr)), .int (nI (h9))]) (rest := []) (n := 7) ⟨hx, hb, hml, hown, hts⟩ (hM w _ (q0 := q0) (n0 := n0 + tl9) (d0 := d0 + tl9) (dn9 := k9) (k9 := k9) (fr := fr) (by omega) (by omega) (by omega) (by omega) (by omega) (by omega) (by omega) (by omega) (by omega) (by omega) (by omega)) (cwV0 7 hts lm_Be_68 im_Be_divideRun se_Be_divideRun in_Be kq_Be_divideRun rfl rfl rfl (by decide +kernel) ⟨by simp only [headSpec]; omega, by simp only [headSpec]; omega⟩) (recvB hKW.1 hP) hKW hP hD hS rfl hl.1 rfl (Nat.le_of_ble_eq_true rfl) d_Be_divideByHead_25 ⟨Nat.zero_le _, Nat.zero_le _⟩ (fun r w1 H locs hp hP hD hS => ?_)
  obtain ⟨f1, nx, ew, er, hnx, hs1, hQ1, hR1⟩ := hp
  rw [ew] at hP hD
  subst er
  refine lv_istore (lv' := [(9, .int (nI (nx))), (8, .int (nI (tl9))), (0, .ref (ad 2)), (1, .int (nI (q0))), (2, .int (nI (n0))), (3, .int (nI (d0))), (4, .int (nI (dn9))), (5, .int (nI (k9))), (6, .int (nI (fr))), (7, .int (nI (h9)))]) hx hb d_Be_divideByHead_28 hl (by decide) rfl (fun ls hl => ?_)
  refine lv_aload_n hx hb d_Be_divideByHead_30 rfl (lv_at hl 2 rfl) ?_
  refine lv_iload hx hb d_Be_divideByHead_31 (lv_at hl 8 rfl) ?_
  refine lv_iload_n hx hb d_Be_divideByHead_33 rfl (lv_at hl 3 rfl) ?_
  refine lv_iload hx hb d_Be_divideByHead_34 (lv_at hl 7 rfl) ?_
  refine lv_iload_n hx hb d_Be_divideByHead_36 rfl (lv_at hl 5 rfl) ?_
  refine lv_iload hx hb d_Be_divideByHead_37 (lv_at hl 1 rfl) ?_
  refine lv_iload hx hb d_Be_divideByHead_39 (lv_at hl 8 rfl) ?_
  refine lv_iload hx hb d_Be_divideByHead_41 (lv_at hl 6 rfl) ?_
  refine nw_iadd (v := nI (fr + dn9)) hx hb d_Be_divideByHead_43 (nI_add _ _) ?_
  refine lv_bipush (v := nI (20)) hx hb d_Be_divideByHead_44 (by decide) ?_
  refine wV_v (As := [.int (nI (fr)), .int (nI (q0)), .int (nI (k9)), .int (nI (d0)), .int (nI (tl9)), .int (nI (fr + dn9)), .int (nI (20))]) (rest := []) (n := 7) ⟨hx, hb, hml, hown, hts⟩ (mulAll l 20 (by omega) (pR w f1) _ (r0 := fr) (a0 := q0) (an := k9) (b0 := d0) (bn := tl9) (fr := fr + dn9) (by omega) (by omega) (by omega) (by omega) (by omega) (by omega) (by omega) (by omega) (by omega) (by omega)) (cwV0 7 hts lm_Be_30 im_Be_multiply se_Be_multiply in_Be kq_Be_multiply rfl rfl rfl (by decide +kernel) ⟨by simp only [headSpec]; omega, by simp only [headSpec]; omega⟩) (recvB hKW.1 hP) hKW hP hD hS rfl hl.1 rfl (Nat.le_of_ble_eq_true rfl) d_Be_divideByHead_46 ⟨Nat.zero_le _, Nat.zero_le _⟩ (fun w1 H locs hp hP hD hS => ?_)
  obtain ⟨f2, ew, hs2, hv2⟩ := hp
  rw [ew] at hP hD
  have hs2 : so2 f2 f1 fr (k9 + tl9) (fr + dn9) (28672 - (fr + dn9)) := hs2
  have hv2 : vN f2 fr (k9 + tl9) = vN f1 q0 k9 * vN f1 d0 tl9 := hv2
  have hd1 : vN f1 d0 tl9 = vN (sR w) d0 tl9 := hs1.vN (by omega) (by omega) (by omega)
  rw [hd1, show k9 + tl9 = dn9 by omega] at hv2
  refine lv_aload_n hx hb d_Be_divideByHead_49 rfl (lv_at hl 2 rfl) ?_
  refine lv_iload_n hx hb d_Be_divideByHead_50 rfl (lv_at hl 4 rfl) ?_
  refine lv_iload hx hb d_Be_divideByHead_51 (lv_at hl 6 rfl) ?_
  refine lv_iload hx hb d_Be_divideByHead_53 (lv_at hl 8 rfl) ?_
  refine lv_iload hx hb d_Be_divideByHead_55 (lv_at hl 6 rfl) ?_
  refine wV_i (As := [.int (nI (n0)), .int (nI (dn9)), .int (nI (fr)), .int (nI (dn9))]) (rest := []) (n := 4) ⟨hx, hb, hml, hown, hts⟩ (c_Be_takeFrom l (pR w f2) _ (t0 := n0) (tc := dn9) (s0 := fr) (cnt := dn9) (by omega) (by omega) (by omega) (by omega)) (cwV0 4 hts lm_Be_113 im_Be_takeFrom se_Be_takeFrom in_Be kq_Be_takeFrom rfl rfl rfl (by decide +kernel) ⟨by simp only [headSpec]; omega, by simp only [headSpec]; omega⟩) (recvB hKW.1 hP) hKW hP hD hS rfl hl.1 rfl (Nat.le_of_ble_eq_true rfl) d_Be_divideByHead_57 ⟨Nat.zero_le _, Nat.zero_le _⟩ (fun r w1 H locs hp hP hD hS => ?_)
  obtain ⟨f3, o1, ew, er, ho1, hs3, hv3⟩ := hp
  rw [ew] at hP hD
  subst er
  have hs3 : so f3 f2 n0 dn9 := hs3
  have hv3 : vN f3 n0 dn9 + vN f2 fr dn9 = vN f2 n0 dn9 + o1 * 4294967296 ^ dn9 := hv3
  rw [hv2] at hv3
  have hq3 : vN f3 q0 k9 = vN f1 q0 k9 := (hs3.vN (by omega)).trans (hs2.vN (by omega) (by omega))
  have hn2 : vN f2 n0 dn9 = vN (sR w) n0 tl9 + 4294967296 ^ tl9 * vN f1 (n0 + tl9) k9 := by
    rw [hs2.vN (c := n0) (k := dn9) (by omega) (by omega), show dn9 = tl9 + k9 by omega, vN_add, hs1.vN (p := n0) (u := tl9) (by omega) (by omega) (by omega)]
  have hNs : vN (sR w) n0 (dn9 + k9) = vN (sR w) n0 tl9 + 4294967296 ^ tl9 * vN (sR w) (n0 + tl9) (k9 + k9) := by rw [show dn9 + k9 = tl9 + (k9 + k9) by omega, vN_add]
  have hDs : vN (sR w) d0 dn9 = vN (sR w) d0 tl9 + 4294967296 ^ tl9 * vN (sR w) (d0 + tl9) k9 := by rw [show dn9 = tl9 + k9 by omega, vN_add]
  have hs123 : so3 f3 (sR w) n0 (dn9 + k9) q0 k9 fr (28672 - fr) := fun q p1 p2 p3 => by rw [hs3 q (by omega), hs2 q (by omega) (by omega), hs1 q (by omega) (by omega) (by omega)]
  have hRl : vN f1 (n0 + tl9) k9 < vN (sR w) (d0 + tl9) k9 := by rw [hR1]; exact Nat.mod_lt _ (pos_D hk1 (by omega))
  refine lv_istore (lv' := [(10, .int (nI (o1))), (9, .int (nI (nx))), (8, .int (nI (tl9))), (0, .ref (ad 2)), (1, .int (nI (q0))), (2, .int (nI (n0))), (3, .int (nI (d0))), (4, .int (nI (dn9))), (5, .int (nI (k9))), (6, .int (nI (fr))), (7, .int (nI (h9)))]) hx hb d_Be_divideByHead_60 hl (by decide) rfl (fun ls hl => ?_)
  refine lv_iload hx hb d_Be_divideByHead_62 (lv_at hl 1 rfl) ?_
  refine lv_if_eq (tgt := 85) hx hb d_Be_divideByHead_64 (by decide) (fun c64 => ?_) (fun c64 => ?_)
  · skip
    have c64 : nx = 0 := (nI_eq (by omega) (by omega)).mp (by rw [nI_0]; exact c64)
    have hv9 : vN f3 n0 dn9 + (nx * 4294967296 ^ k9 + vN f1 q0 k9) * vN (sR w) d0 tl9 = vN f2 n0 dn9 + o1 * 4294967296 ^ dn9 := by rw [c64, Nat.zero_mul, Nat.zero_add]; exact hv3
    rw [← hq3] at hQ1 hv9
    have hs9 := hs123
    refine lv_iconst (v := nI (0)) hx hb d_Be_divideByHead_85 (by decide) ?_
    refine lv_istore (lv' := [(11, .int (nI (0))), (10, .int (nI (o1))), (9, .int (nI (nx))), (8, .int (nI (tl9))), (0, .ref (ad 2)), (1, .int (nI (q0))), (2, .int (nI (n0))), (3, .int (nI (d0))), (4, .int (nI (dn9))), (5, .int (nI (k9))), (6, .int (nI (fr))), (7, .int (nI (h9)))]) hx hb d_Be_divideByHead_86 hl (by decide) rfl (fun ls hl => ?_)
    have hinv := hd_inv hQ1 hR1 hn2 hNs hDs hv9
    exact loop 4 0 (o1) nx f3 H locs ls (by omega) hnx (by omega) hinv (fun z => hd_lt (vN_lt _ _ _) hRl hn2 hDs hv9 z) (by rw [hQ9]; exact hd_bound hinv (by omega) hDh hDp) hs9 hP hD hS (lv_sub hl [0, 1, 2, 3, 4, 5, 6, 7, 8, 9, 10, 11] rfl)
  · skip
    have c64 : ¬ (nx = 0) := fun h => c64 (by have := (nI_eq (by omega) (by omega)).mpr h; rwa [nI_0] at this)
    refine lv_iload hx hb d_Be_divideByHead_67 (lv_at hl 0 rfl) ?_
    refine lv_aload_n hx hb d_Be_divideByHead_69 rfl (lv_at hl 3 rfl) ?_
    refine lv_iload_n hx hb d_Be_divideByHead_70 rfl (lv_at hl 5 rfl) ?_
    refine lv_iload hx hb d_Be_divideByHead_71 (lv_at hl 8 rfl) ?_
    refine nw_iadd (v := nI (n0 + k9)) hx hb d_Be_divideByHead_73 (nI_add _ _) ?_
    refine lv_iload hx hb d_Be_divideByHead_74 (lv_at hl 2 rfl) ?_
    refine lv_iload_n hx hb d_Be_divideByHead_76 rfl (lv_at hl 6 rfl) ?_
    refine lv_iload hx hb d_Be_divideByHead_77 (lv_at hl 2 rfl) ?_
    refine wV_i (As := [.int (nI (n0 + k9)), .int (nI (tl9)), .int (nI (d0)), .int (nI (tl9))]) (rest := [.int (nI (o1))]) (n := 4) ⟨hx, hb, hml, hown, hts⟩ (c_Be_takeFrom l (pR w f3) _ (t0 := n0 + k9) (tc := tl9) (s0 := d0) (cnt := tl9) (by omega) (by omega) (by omega) (by omega)) (cwV0 4 hts lm_Be_113 im_Be_takeFrom se_Be_takeFrom in_Be kq_Be_takeFrom rfl rfl rfl (by decide +kernel) ⟨by simp only [headSpec]; omega, by simp only [headSpec]; omega⟩) (recvB hKW.1 hP) hKW hP hD hS rfl hl.1 rfl (Nat.le_of_ble_eq_true rfl) d_Be_divideByHead_79 ⟨Nat.zero_le _, Nat.zero_le _⟩ (fun r w1 H locs hp hP hD hS => ?_)
    obtain ⟨f4, o2, ew, er, ho2, hs4, hv4⟩ := hp
    rw [ew] at hP hD
    subst er
    have hs4 : so f4 f3 (n0 + k9) tl9 := hs4
    have hv4 : vN f4 (n0 + k9) tl9 + vN f3 d0 tl9 = vN f3 (n0 + k9) tl9 + o2 * 4294967296 ^ tl9 := hv4
    rw [hs123.vN (p := d0) (u := tl9) (by omega) (by omega) (by omega)] at hv4
    have hv5 := sub_at hs4 hv4
    rw [show k9 + tl9 = dn9 by omega] at hv5
    have hv9 := hd_add hv3 (show nx = 1 by omega) hv5
    have hq4 : vN f4 q0 k9 = vN f1 q0 k9 := (hs4.vN (by omega)).trans hq3
    rw [← hq4] at hQ1 hv9
    have hs9 : so3 f4 (sR w) n0 (dn9 + k9) q0 k9 fr (28672 - fr) := fun q p1 p2 p3 => by rw [hs4 q (by omega)]; exact hs123 q p1 p2 p3
    refine nw_iadd (v := nI (o1 + o2)) hx hb d_Be_divideByHead_82 (nI_add _ _) ?_
    refine lv_istore (lv' := [(10, .int (nI (o1 + o2))), (9, .int (nI (nx))), (8, .int (nI (tl9))), (0, .ref (ad 2)), (1, .int (nI (q0))), (2, .int (nI (n0))), (3, .int (nI (d0))), (4, .int (nI (dn9))), (5, .int (nI (k9))), (6, .int (nI (fr))), (7, .int (nI (h9)))]) hx hb d_Be_divideByHead_83 hl (by decide) rfl (fun ls hl => ?_)
    refine lv_iconst (v := nI (0)) hx hb d_Be_divideByHead_85 (by decide) ?_
    refine lv_istore (lv' := [(11, .int (nI (0))), (10, .int (nI (o1 + o2))), (9, .int (nI (nx))), (8, .int (nI (tl9))), (0, .ref (ad 2)), (1, .int (nI (q0))), (2, .int (nI (n0))), (3, .int (nI (d0))), (4, .int (nI (dn9))), (5, .int (nI (k9))), (6, .int (nI (fr))), (7, .int (nI (h9)))]) hx hb d_Be_divideByHead_86 hl (by decide) rfl (fun ls hl => ?_)
    have hinv := hd_inv hQ1 hR1 hn2 hNs hDs hv9
    exact loop 4 0 (o1 + o2) nx f4 H locs ls (by omega) hnx (by omega) hinv (fun z => hd_lt (vN_lt _ _ _) hRl hn2 hDs hv9 z) (by rw [hQ9]; exact hd_bound hinv (by omega) hDh hDp) hs9 hP hD hS (lv_sub hl [0, 1, 2, 3, 4, 5, 6, 7, 8, 9, 10, 11] rfl)

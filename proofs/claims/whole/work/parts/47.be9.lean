/-! THE BENCH: divideRun (rows laid by wip/whole/gen/c_be8.py) -/
set_option maxHeartbeats 4000000 in
set_option maxRecDepth 100000 in
/-- divideRun(q, n, d, dn, k, free, halvings) -/
theorem c_Be_divideRunG (l : Launch) {D : va_G} {cI cB cR : ClassId} {ad : Nat → Nat} (w : St) (sz : Nat) {q0 n0 d0 dn9 k9 fr h9 : Nat} (hM : 1 ≤ h9 → DivAt l D cI cB cR ad (h9 - 1)) (hdn : 1 ≤ dn9) (hkd : dn9 < 80 ∨ k9 ≤ dn9) (h1 : n0 + dn9 + k9 ≤ fr) (h2 : d0 + dn9 ≤ fr) (h3 : q0 + k9 ≤ fr) (hnd : n0 + dn9 + k9 ≤ d0 ∨ d0 + dn9 ≤ n0) (hnq : n0 + dn9 + k9 ≤ q0 ∨ q0 + k9 ≤ n0) (hdq : d0 + dn9 ≤ q0 ∨ q0 + k9 ≤ d0) (htop : 2147483648 ≤ wN (sR w (d0 + dn9 - 1))) (hf9 : fr ≤ 28672) (hh9 : h9 ≤ 100) (hE : dn9 < 80 ∨ k9 < 80 ∨ 2 * (fr + dn9) + 4 * max k9 (dn9 - k9) + 86 ≤ 57344 ∨ 2 * (fr + dn9) + 3 * max k9 (dn9 - k9) + 2 * min k9 (dn9 - k9) + 90 ≤ 57344) : Met l y_Be_divideRun (q_Be_divideRun :: wA) { frames := 2 * h9 + 50, cells := 0, slots := 0, locals := 80 * h9 + 1850 } (va_Pc [.ref (ad 2), .int (nI (q0)), .int (nI (n0)), .int (nI (d0)), .int (nI (dn9)), .int (nI (k9)), .int (nI (fr)), .int (nI (h9))] (PW D cI cB cR ad w sz)) (va_Qi (fun (r : Int32) (w1 : St) => ∃ (f : Nat → Int32) (nx : Nat), w1 = pR w f ∧ r = nI nx ∧ nx ≤ 1 ∧ so3 f (sR w) n0 (dn9 + k9) q0 k9 fr (28672 - fr) ∧ nx * 4294967296 ^ k9 + vN f q0 k9 = vN (sR w) n0 (dn9 + k9) / vN (sR w) d0 dn9 ∧ vN f n0 dn9 = vN (sR w) n0 (dn9 + k9) % vN (sR w) d0 dn9) (BW D cI cB cR ad) (AA ad sz)) 0 0 (AA ad sz) := by
  refine Met.ofW (cc := b_Be_divideRun) (maxL := 10) (ret := (some (.int))) (by decide) rfl ?_
  intro p e s m args below meth c s₁ B hml hv
  obtain ⟨rfl, hsz, hP, hD0, hKW⟩ := hv
  have hx := B.exec
  have hb := B.bytes
  have hr := B.returns
  have hts := atoms_spec (ws := q_Be_divideRun :: wA) B.pre
  have hown : s.vm.findClass R_Be = some m.cls := findClass_of_methodNamed B.named
  have hlocks := B.notSynchronized
  subst hsz
  have hD := NC_AA (sz := s.heap.size) hD0
  have hS : va_S (AA ad s.heap.size) s.heap s.heap [] := va_S.rf
  have hl := lv_entry ([.ref (ad 2), .int (nI (q0)), .int (nI (n0)), .int (nI (d0)), .int (nI (dn9)), .int (nI (k9)), .int (nI (fr)), .int (nI (h9))]) (n := 10) (Nat.le_of_ble_eq_true rfl)
  rw [lg_entry_eq]
  generalize (lg_sl ([.ref (ad 2), .int (nI (q0)), .int (nI (n0)), .int (nI (d0)), .int (nI (dn9)), .int (nI (k9)), .int (nI (fr)), .int (nI (h9))]) ++ List.replicate (10 - (lg_sl ([.ref (ad 2), .int (nI (q0)), .int (nI (n0)), .int (nI (d0)), .int (nI (dn9)), .int (nI (k9)), .int (nI (fr)), .int (nI (h9))])).length) Slot.unset).toArray = ls at hl ⊢
  have hl : lv_has ls 10 [(0, .ref (ad 2)), (1, .int (nI (q0))), (2, .int (nI (n0))), (3, .int (nI (d0))), (4, .int (nI (dn9))), (5, .int (nI (k9))), (6, .int (nI (fr))), (7, .int (nI (h9)))] := hl
  refine lv_iload hx hb d_Be_divideRun_0 (lv_at hl 5 rfl) ?_
  refine lv_bipush (v := nI (80)) hx hb d_Be_divideRun_2 (by decide) ?_
  refine lv_icmp_lt (tgt := 19) hx hb d_Be_divideRun_4 (by decide) (fun c4 => ?_) (fun c4 => ?_)
  · skip
    have c4 : k9 < 80 := (nI_ltI (by omega) (by omega)).mp c4
    refine lv_aload_n hx hb d_Be_divideRun_19 rfl (lv_at hl 0 rfl) ?_
    refine lv_iload_n hx hb d_Be_divideRun_20 rfl (lv_at hl 1 rfl) ?_
    refine lv_iload_n hx hb d_Be_divideRun_21 rfl (lv_at hl 2 rfl) ?_
    refine lv_iload_n hx hb d_Be_divideRun_22 rfl (lv_at hl 3 rfl) ?_
    refine lv_iload hx hb d_Be_divideRun_23 (lv_at hl 4 rfl) ?_
    refine lv_iload hx hb d_Be_divideRun_25 (lv_at hl 5 rfl) ?_
    refine wV_i (As := [.int (nI (q0)), .int (nI (n0)), .int (nI (d0)), .int (nI (dn9)), .int (nI (k9))]) (rest := []) (n := 5) ⟨hx, hb, hml, hown, hts⟩ (c_Be_dividePlain l w _ (q0 := q0) (n0 := n0) (d0 := d0) (dn9 := dn9) (k9 := k9) hdn (by omega) (by omega) (by omega) (by omega) (by omega) (by omega) htop) (cwV0 5 hts lm_Be_116 im_Be_dividePlain se_Be_dividePlain in_Be kq_Be_dividePlain rfl rfl rfl (by decide +kernel) ⟨by simp only [headSpec]; omega, by simp only [headSpec]; omega⟩) (recvB hKW.1 hP) hKW hP hD hS rfl hl.1 rfl (Nat.le_of_ble_eq_true rfl) d_Be_divideRun_27 ⟨Nat.zero_le _, Nat.zero_le _⟩ (fun r w1 H locs hp hP hD hS => ?_)
    obtain ⟨f1, nx, ew, er, hnx, hs1, hQ, hR⟩ := hp
    rw [ew] at hP hD
    subst er
    exact W.iret (v := nI (nx)) hx hb hr (fun t ht hW => ⟨⟨_, pR w f1, rfl, ⟨f1, nx, rfl, rfl, hnx, fun q p1 p2 _ => hs1 q p1 p2, hQ, hR⟩, BW_of ht hP⟩, hS.F ht⟩) hS.2.2 d_Be_divideRun_30
  · skip
    have c4 : ¬ (k9 < 80) := fun h => c4 ((nI_ltI (by omega) (by omega)).mpr h)
    refine lv_iload hx hb d_Be_divideRun_7 (lv_at hl 4 rfl) ?_
    refine lv_bipush (v := nI (80)) hx hb d_Be_divideRun_9 (by decide) ?_
    refine lv_icmp_lt (tgt := 19) hx hb d_Be_divideRun_11 (by decide) (fun c11 => ?_) (fun c11 => ?_)
    · skip
      have c11 : dn9 < 80 := (nI_ltI (by omega) (by omega)).mp c11
      refine lv_aload_n hx hb d_Be_divideRun_19 rfl (lv_at hl 0 rfl) ?_
      refine lv_iload_n hx hb d_Be_divideRun_20 rfl (lv_at hl 1 rfl) ?_
      refine lv_iload_n hx hb d_Be_divideRun_21 rfl (lv_at hl 2 rfl) ?_
      refine lv_iload_n hx hb d_Be_divideRun_22 rfl (lv_at hl 3 rfl) ?_
      refine lv_iload hx hb d_Be_divideRun_23 (lv_at hl 4 rfl) ?_
      refine lv_iload hx hb d_Be_divideRun_25 (lv_at hl 5 rfl) ?_
      refine wV_i (As := [.int (nI (q0)), .int (nI (n0)), .int (nI (d0)), .int (nI (dn9)), .int (nI (k9))]) (rest := []) (n := 5) ⟨hx, hb, hml, hown, hts⟩ (c_Be_dividePlain l w _ (q0 := q0) (n0 := n0) (d0 := d0) (dn9 := dn9) (k9 := k9) hdn (by omega) (by omega) (by omega) (by omega) (by omega) (by omega) htop) (cwV0 5 hts lm_Be_116 im_Be_dividePlain se_Be_dividePlain in_Be kq_Be_dividePlain rfl rfl rfl (by decide +kernel) ⟨by simp only [headSpec]; omega, by simp only [headSpec]; omega⟩) (recvB hKW.1 hP) hKW hP hD hS rfl hl.1 rfl (Nat.le_of_ble_eq_true rfl) d_Be_divideRun_27 ⟨Nat.zero_le _, Nat.zero_le _⟩ (fun r w1 H locs hp hP hD hS => ?_)
      obtain ⟨f1, nx, ew, er, hnx, hs1, hQ, hR⟩ := hp
      rw [ew] at hP hD
      subst er
      exact W.iret (v := nI (nx)) hx hb hr (fun t ht hW => ⟨⟨_, pR w f1, rfl, ⟨f1, nx, rfl, rfl, hnx, fun q p1 p2 _ => hs1 q p1 p2, hQ, hR⟩, BW_of ht hP⟩, hS.F ht⟩) hS.2.2 d_Be_divideRun_30
    · skip
      have c11 : ¬ (dn9 < 80) := fun h => c11 ((nI_ltI (by omega) (by omega)).mpr h)
      refine lv_iload hx hb d_Be_divideRun_14 (lv_at hl 7 rfl) ?_
      refine lv_if_ne (tgt := 31) hx hb d_Be_divideRun_16 (by decide) (fun c16 => ?_) (fun c16 => ?_)
      · skip
        have c16 : ¬ (h9 = 0) := fun h => c16 (by have := (nI_eq (by omega) (by omega)).mpr h; rwa [nI_0] at this)
        have hM := hM (by omega)
        refine lv_iload hx hb d_Be_divideRun_31 (lv_at hl 5 rfl) ?_
        refine lv_iload hx hb d_Be_divideRun_33 (lv_at hl 4 rfl) ?_
        refine lv_icmp_ge (tgt := 56) hx hb d_Be_divideRun_35 (by decide) (fun c35 => ?_) (fun c35 => ?_)
        · skip
          have c35 : dn9 ≤ k9 := (nI_leI (by omega) (by omega)).mp c35
          refine lv_iload hx hb d_Be_divideRun_56 (lv_at hl 5 rfl) ?_
          refine lv_iconst (v := nI (2)) hx hb d_Be_divideRun_58 (by decide) ?_
          refine nw_idiv (v := nI (k9 / 2)) hx hb d_Be_divideRun_59 (nI_ne0 (by omega) (by omega)) (pk_div (by omega) (by omega) (by omega)) ?_
          have hDp := pos_D hdn htop
          obtain ⟨lw, hlw⟩ : ∃ lw, lw = k9 / 2 := ⟨_, rfl⟩
          rw [← hlw]
          refine lv_istore (lv' := [(8, .int (nI (lw))), (0, .ref (ad 2)), (1, .int (nI (q0))), (2, .int (nI (n0))), (3, .int (nI (d0))), (4, .int (nI (dn9))), (5, .int (nI (k9))), (6, .int (nI (fr))), (7, .int (nI (h9)))]) hx hb d_Be_divideRun_60 hl (by decide) rfl (fun ls hl => ?_)
          refine lv_aload_n hx hb d_Be_divideRun_62 rfl (lv_at hl 1 rfl) ?_
          refine lv_iload_n hx hb d_Be_divideRun_63 rfl (lv_at hl 2 rfl) ?_
          refine lv_iload hx hb d_Be_divideRun_64 (lv_at hl 0 rfl) ?_
          refine nw_iadd (v := nI (q0 + lw)) hx hb d_Be_divideRun_66 (nI_add _ _) ?_
          refine lv_iload_n hx hb d_Be_divideRun_67 rfl (lv_at hl 3 rfl) ?_
          refine lv_iload hx hb d_Be_divideRun_68 (lv_at hl 0 rfl) ?_
          refine nw_iadd (v := nI (n0 + lw)) hx hb d_Be_divideRun_70 (nI_add _ _) ?_
          refine lv_iload_n hx hb d_Be_divideRun_71 rfl (lv_at hl 4 rfl) ?_
          refine lv_iload hx hb d_Be_divideRun_72 (lv_at hl 5 rfl) ?_
          refine lv_iload hx hb d_Be_divideRun_74 (lv_at hl 6 rfl) ?_
          refine lv_iload hx hb d_Be_divideRun_76 (lv_at hl 0 rfl) ?_
          refine nw_isub (v := nI (k9 - lw)) hx hb d_Be_divideRun_78 (pk_sub (by omega)) ?_
          refine lv_iload hx hb d_Be_divideRun_79 (lv_at hl 7 rfl) ?_
          refine lv_iload hx hb d_Be_divideRun_81 (lv_at hl 8 rfl) ?_
          refine lv_iconst (v := nI (1)) hx hb d_Be_divideRun_83 (by decide) ?_
          refine nw_isub (v := nI (h9 - 1)) hx hb d_Be_divideRun_84 (pk_sub (by omega)) ?_
          refine wV_i (As := [.int (nI (q0 + lw)), .int (nI (n0 + lw)), .int (nI (d0)), .int (nI (dn9)), .int (nI (k9 - lw)), .int (nI (fr)), .int (nI (h9 - 1))]) (rest := []) (n := 7) ⟨hx, hb, hml, hown, hts⟩ (c_Be_divideByHead l (w) _ (q0 := q0 + lw) (n0 := n0 + lw) (d0 := d0) (dn9 := dn9) (k9 := k9 - lw) (fr := fr) (h9 := h9 - 1) hM (by omega) (by omega) (by omega) (by omega) (by omega) (by omega) (by omega) (by omega) (by omega) htop (by omega) (by omega)) (cwV0 7 hts lm_Be_120 im_Be_divideByHead se_Be_divideByHead in_Be kq_Be_divideByHead rfl rfl rfl (by decide +kernel) ⟨by simp only [headSpec]; omega, by simp only [headSpec]; omega⟩) (recvB hKW.1 hP) hKW hP hD hS rfl hl.1 rfl (Nat.le_of_ble_eq_true rfl) d_Be_divideRun_85 ⟨Nat.zero_le _, Nat.zero_le _⟩ (fun r w1 H locs hp hP hD hS => ?_)
          obtain ⟨f1, nx, ew, er, hnx, hs1, hQ1, hR1⟩ := hp
          rw [ew] at hP hD
          subst er
          have hfd : vN f1 d0 dn9 = vN (sR w) d0 dn9 := hs1.vN (by omega) (by omega) (by omega)
          have hft : f1 (d0 + dn9 - 1) = sR w (d0 + dn9 - 1) := hs1 _ (by omega) (by omega) (by omega)
          refine lv_istore (lv' := [(9, .int (nI (nx))), (8, .int (nI (lw))), (0, .ref (ad 2)), (1, .int (nI (q0))), (2, .int (nI (n0))), (3, .int (nI (d0))), (4, .int (nI (dn9))), (5, .int (nI (k9))), (6, .int (nI (fr))), (7, .int (nI (h9)))]) hx hb d_Be_divideRun_88 hl (by decide) rfl (fun ls hl => ?_)
          refine lv_aload_n hx hb d_Be_divideRun_90 rfl (lv_at hl 2 rfl) ?_
          refine lv_iload_n hx hb d_Be_divideRun_91 rfl (lv_at hl 3 rfl) ?_
          refine lv_iload_n hx hb d_Be_divideRun_92 rfl (lv_at hl 4 rfl) ?_
          refine lv_iload_n hx hb d_Be_divideRun_93 rfl (lv_at hl 5 rfl) ?_
          refine lv_iload hx hb d_Be_divideRun_94 (lv_at hl 6 rfl) ?_
          refine lv_iload hx hb d_Be_divideRun_96 (lv_at hl 1 rfl) ?_
          refine lv_iload hx hb d_Be_divideRun_98 (lv_at hl 8 rfl) ?_
          refine lv_iload hx hb d_Be_divideRun_100 (lv_at hl 9 rfl) ?_
          refine lv_iconst (v := nI (1)) hx hb d_Be_divideRun_102 (by decide) ?_
          refine nw_isub (v := nI (h9 - 1)) hx hb d_Be_divideRun_103 (pk_sub (by omega)) ?_
          refine wV_i (As := [.int (nI (q0)), .int (nI (n0)), .int (nI (d0)), .int (nI (dn9)), .int (nI (lw)), .int (nI (fr)), .int (nI (h9 - 1))]) (rest := []) (n := 7) ⟨hx, hb, hml, hown, hts⟩ (c_Be_divideByHead l (pR w f1) _ (q0 := q0) (n0 := n0) (d0 := d0) (dn9 := dn9) (k9 := lw) (fr := fr) (h9 := h9 - 1) hM (by omega) (by omega) (by omega) (by omega) (by omega) (by omega) (by omega) (by omega) (by omega) (by show 2147483648 ≤ wN (f1 (d0 + dn9 - 1)); rw [hft]; exact htop) (by omega) (by omega)) (cwV0 7 hts lm_Be_120 im_Be_divideByHead se_Be_divideByHead in_Be kq_Be_divideByHead rfl rfl rfl (by decide +kernel) ⟨by simp only [headSpec]; omega, by simp only [headSpec]; omega⟩) (recvB hKW.1 hP) hKW hP hD hS rfl hl.1 rfl (Nat.le_of_ble_eq_true rfl) d_Be_divideRun_104 ⟨Nat.zero_le _, Nat.zero_le _⟩ (fun r w1 H locs hp hP hD hS => ?_)
          obtain ⟨f2, nx2, ew, er, hnx2, hs2, hQ2, hR2⟩ := hp
          rw [ew] at hP hD
          subst er
          have hs2 : so3 f2 f1 n0 (dn9 + lw) q0 lw fr (28672 - fr) := hs2
          have hQ2 : nx2 * 4294967296 ^ lw + vN f2 q0 lw = vN f1 n0 (dn9 + lw) / vN f1 d0 dn9 := hQ2
          have hR2 : vN f2 n0 dn9 = vN f1 n0 (dn9 + lw) % vN f1 d0 dn9 := hR2
          rw [hfd] at hQ2 hR2
          have hNs : vN (sR w) n0 (dn9 + k9) = vN (sR w) n0 lw + 4294967296 ^ lw * vN (sR w) (n0 + lw) (dn9 + (k9 - lw)) := by rw [← vN_add, show lw + (dn9 + (k9 - lw)) = dn9 + k9 by omega]
          have hlo : vN f1 n0 (dn9 + lw) = vN (sR w) n0 lw + 4294967296 ^ lw * vN f1 (n0 + lw) dn9 := by rw [Nat.add_comm dn9 lw, vN_add, hs1.vN (p := n0) (u := lw) (by omega) (by omega) (by omega)]
          have hz := tr_end hDp hNs (vN_lt _ _ _) hQ1 hR1 hlo hQ2 hR2
          have hqs : vN f2 q0 k9 = vN f2 q0 lw + 4294967296 ^ lw * vN f1 (q0 + lw) (k9 - lw) := by rw [← hs2.vN (p := q0 + lw) (u := k9 - lw) (by omega) (by omega) (by omega), ← vN_add, show lw + (k9 - lw) = k9 by omega]
          have hpw : 4294967296 ^ lw * 4294967296 ^ (k9 - lw) = 4294967296 ^ k9 := by rw [← Nat.pow_add, show lw + (k9 - lw) = k9 by omega]
          rw [← hqs, hpw] at hz
          refine lv_pop hx hb d_Be_divideRun_107 rfl ?_
          refine lv_iload hx hb d_Be_divideRun_108 (lv_at hl 0 rfl) ?_
          exact W.iret (v := nI (nx)) hx hb hr (fun t ht hW => ⟨⟨_, pR w f2, rfl, ⟨f2, nx, rfl, rfl, hnx, fun q p1 p2 p3 => by rw [hs2 q (by omega) (by omega) (by omega), hs1 q (by omega) (by omega) (by omega)], hz.1, hz.2⟩, BW_of ht hP⟩, hS.F ht⟩) hS.2.2 d_Be_divideRun_110
        · skip
          have c35 : ¬ (dn9 ≤ k9) := fun h => c35 ((nI_leI (by omega) (by omega)).mpr h)
          refine lv_aload_n hx hb d_Be_divideRun_38 rfl (lv_at hl 0 rfl) ?_
          refine lv_iload_n hx hb d_Be_divideRun_39 rfl (lv_at hl 1 rfl) ?_
          refine lv_iload_n hx hb d_Be_divideRun_40 rfl (lv_at hl 2 rfl) ?_
          refine lv_iload_n hx hb d_Be_divideRun_41 rfl (lv_at hl 3 rfl) ?_
          refine lv_iload hx hb d_Be_divideRun_42 (lv_at hl 4 rfl) ?_
          refine lv_iload hx hb d_Be_divideRun_44 (lv_at hl 5 rfl) ?_
          refine lv_iload hx hb d_Be_divideRun_46 (lv_at hl 6 rfl) ?_
          refine lv_iload hx hb d_Be_divideRun_48 (lv_at hl 7 rfl) ?_
          refine lv_iconst (v := nI (1)) hx hb d_Be_divideRun_50 (by decide) ?_
          refine nw_isub (v := nI (h9 - 1)) hx hb d_Be_divideRun_51 (pk_sub (by omega)) ?_
          refine wV_i (As := [.int (nI (q0)), .int (nI (n0)), .int (nI (d0)), .int (nI (dn9)), .int (nI (k9)), .int (nI (fr)), .int (nI (h9 - 1))]) (rest := []) (n := 7) ⟨hx, hb, hml, hown, hts⟩ (c_Be_divideByHead l (w) _ (q0 := q0) (n0 := n0) (d0 := d0) (dn9 := dn9) (k9 := k9) (fr := fr) (h9 := h9 - 1) hM (by omega) (by omega) (by omega) (by omega) (by omega) (by omega) (by omega) (by omega) (by omega) htop (by omega) (by omega)) (cwV0 7 hts lm_Be_120 im_Be_divideByHead se_Be_divideByHead in_Be kq_Be_divideByHead rfl rfl rfl (by decide +kernel) ⟨by simp only [headSpec]; omega, by simp only [headSpec]; omega⟩) (recvB hKW.1 hP) hKW hP hD hS rfl hl.1 rfl (Nat.le_of_ble_eq_true rfl) d_Be_divideRun_52 ⟨Nat.zero_le _, Nat.zero_le _⟩ (fun r w1 H locs hp hP hD hS => ?_)
          obtain ⟨f1, nx, ew, er, hnx, hs1, hQ, hR⟩ := hp
          rw [ew] at hP hD
          subst er
          exact W.iret (v := nI (nx)) hx hb hr (fun t ht hW => ⟨⟨_, pR w f1, rfl, ⟨f1, nx, rfl, rfl, hnx, hs1, hQ, hR⟩, BW_of ht hP⟩, hS.F ht⟩) hS.2.2 d_Be_divideRun_55
      · skip
        have c16 : h9 = 0 := (nI_eq (by omega) (by omega)).mp (by rw [nI_0]; exact c16)
        refine lv_aload_n hx hb d_Be_divideRun_19 rfl (lv_at hl 0 rfl) ?_
        refine lv_iload_n hx hb d_Be_divideRun_20 rfl (lv_at hl 1 rfl) ?_
        refine lv_iload_n hx hb d_Be_divideRun_21 rfl (lv_at hl 2 rfl) ?_
        refine lv_iload_n hx hb d_Be_divideRun_22 rfl (lv_at hl 3 rfl) ?_
        refine lv_iload hx hb d_Be_divideRun_23 (lv_at hl 4 rfl) ?_
        refine lv_iload hx hb d_Be_divideRun_25 (lv_at hl 5 rfl) ?_
        refine wV_i (As := [.int (nI (q0)), .int (nI (n0)), .int (nI (d0)), .int (nI (dn9)), .int (nI (k9))]) (rest := []) (n := 5) ⟨hx, hb, hml, hown, hts⟩ (c_Be_dividePlain l w _ (q0 := q0) (n0 := n0) (d0 := d0) (dn9 := dn9) (k9 := k9) hdn (by omega) (by omega) (by omega) (by omega) (by omega) (by omega) htop) (cwV0 5 hts lm_Be_116 im_Be_dividePlain se_Be_dividePlain in_Be kq_Be_dividePlain rfl rfl rfl (by decide +kernel) ⟨by simp only [headSpec]; omega, by simp only [headSpec]; omega⟩) (recvB hKW.1 hP) hKW hP hD hS rfl hl.1 rfl (Nat.le_of_ble_eq_true rfl) d_Be_divideRun_27 ⟨Nat.zero_le _, Nat.zero_le _⟩ (fun r w1 H locs hp hP hD hS => ?_)
        obtain ⟨f1, nx, ew, er, hnx, hs1, hQ, hR⟩ := hp
        rw [ew] at hP hD
        subst er
        exact W.iret (v := nI (nx)) hx hb hr (fun t ht hW => ⟨⟨_, pR w f1, rfl, ⟨f1, nx, rfl, rfl, hnx, fun q p1 p2 _ => hs1 q p1 p2, hQ, hR⟩, BW_of ht hP⟩, hS.F ht⟩) hS.2.2 d_Be_divideRun_30
theorem divAll (l : Launch) {D : va_G} {cI cB cR : ClassId} {ad : Nat → Nat} : ∀ h9, h9 ≤ 100 → DivAt l D cI cB cR ad h9 := by
  intro h9
  induction h9 with
  | zero => exact fun _ w sz _ _ _ _ _ _ h1 h2 h3 h4 h5 h6 h7 h8 ha hb hc => c_Be_divideRunG l w sz (fun h => absurd h (by omega)) h1 h2 h3 h4 h5 h6 h7 h8 ha hb (by omega) hc
  | succ h9 ih => exact fun hh w sz _ _ _ _ _ _ h1 h2 h3 h4 h5 h6 h7 h8 ha hb hc => c_Be_divideRunG l w sz (fun _ => ih (by omega)) h1 h2 h3 h4 h5 h6 h7 h8 ha hb hh hc

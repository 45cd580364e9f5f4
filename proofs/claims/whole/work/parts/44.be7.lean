/-! THE BENCH: multiply, multiplyTwice, multiplyThrice (rows laid by wip/whole/gen/c_be7.py) -/
set_option maxHeartbeats 4000000 in
set_option maxRecDepth 100000 in
/-- multiplyTwice(r, a, an, b, bn, free, halvings) -/
theorem c_Be_multiplyTwice (l : Launch) {D : va_G} {cI cB cR : ClassId} {ad : Nat → Nat} (w : St) (sz : Nat) {r0 a0 an b0 bn fr h9 : Nat} (hM : MulAt l D cI cB cR ad h9) (h1a : 2 ≤ an) (h1b : 1 ≤ bn) (hab : a0 + an ≤ b0 ∨ b0 + bn ≤ a0) (hbh : bn ≤ (an + 1) / 2) (hfa : a0 + an ≤ fr) (hfb : b0 + bn ≤ fr) (hfr : r0 + an + bn ≤ fr) (hf9 : fr ≤ 28672) (hda : a0 + an ≤ r0 ∨ r0 + an + bn ≤ a0) (hdb : b0 + bn ≤ r0 ∨ r0 + an + bn ≤ b0) (hh9 : h9 ≤ 100) (hE : 2 * fr + 4 * an + 4 * h9 + 10 ≤ 57344 ∨ 2 * fr + 3 * an + 2 * bn + 4 * h9 + 14 ≤ 57344) : Met l y_Be_multiplyTwice (q_Be_multiplyTwice :: wA) { frames := 2 * h9 + 4, cells := 0, slots := 0, locals := 80 * h9 + 160 } (va_Pc [.ref (ad 2), .int (nI (r0)), .int (nI (a0)), .int (nI (an)), .int (nI (b0)), .int (nI (bn)), .int (nI (fr)), .int (nI (h9))] (PW D cI cB cR ad w sz)) (va_Qv (fun w1 : St => ∃ f : Nat → Int32, w1 = pR w f ∧ so2 f (sR w) r0 (an + bn) fr (28672 - fr) ∧ vN f r0 (an + bn) = vN (sR w) a0 an * vN (sR w) b0 bn) (BW D cI cB cR ad) (AA ad sz)) 0 0 (AA ad sz) := by
  refine Met.ofW (cc := b_Be_multiplyTwice) (maxL := 10) (ret := none) (by decide) rfl ?_
  intro p e s m args below meth c s₁ B hml hv
  obtain ⟨rfl, hsz, hP, hD0, hKW⟩ := hv
  have hx := B.exec
  have hb := B.bytes
  have hr := B.returns
  have hts := atoms_spec (ws := q_Be_multiplyTwice :: wA) B.pre
  have hown : s.vm.findClass R_Be = some m.cls := findClass_of_methodNamed B.named
  have hlocks := B.notSynchronized
  subst hsz
  have hD := NC_AA (sz := s.heap.size) hD0
  have hS : va_S (AA ad s.heap.size) s.heap s.heap [] := va_S.rf
  have hl := lv_entry ([.ref (ad 2), .int (nI (r0)), .int (nI (a0)), .int (nI (an)), .int (nI (b0)), .int (nI (bn)), .int (nI (fr)), .int (nI (h9))]) (n := 10) (Nat.le_of_ble_eq_true rfl)
  rw [lg_entry_eq]
  generalize (lg_sl ([.ref (ad 2), .int (nI (r0)), .int (nI (a0)), .int (nI (an)), .int (nI (b0)), .int (nI (bn)), .int (nI (fr)), .int (nI (h9))]) ++ List.replicate (10 - (lg_sl ([.ref (ad 2), .int (nI (r0)), .int (nI (a0)), .int (nI (an)), .int (nI (b0)), .int (nI (bn)), .int (nI (fr)), .int (nI (h9))])).length) Slot.unset).toArray = ls at hl ⊢
  have hl : lv_has ls 10 [(0, .ref (ad 2)), (1, .int (nI (r0))), (2, .int (nI (a0))), (3, .int (nI (an))), (4, .int (nI (b0))), (5, .int (nI (bn))), (6, .int (nI (fr))), (7, .int (nI (h9)))] := hl
  refine lv_iload_n hx hb d_Be_multiplyTwice_0 rfl (lv_at hl 3 rfl) ?_
  refine lv_iconst (v := nI (1)) hx hb d_Be_multiplyTwice_1 (by decide) ?_
  refine nw_iadd (v := nI (an + 1)) hx hb d_Be_multiplyTwice_2 (nI_add _ _) ?_
  refine lv_iconst (v := nI (2)) hx hb d_Be_multiplyTwice_3 (by decide) ?_
  refine nw_idiv (v := nI ((an + 1) / 2)) hx hb d_Be_multiplyTwice_4 (nI_ne0 (by omega) (by omega)) (pk_div (by omega) (by omega) (by omega)) ?_
  obtain ⟨hf, hhf⟩ : ∃ hf, hf = (an + 1) / 2 := ⟨_, rfl⟩
  rw [← hhf] at hbh ⊢
  refine lv_istore (lv' := [(8, .int (nI (hf))), (0, .ref (ad 2)), (1, .int (nI (r0))), (2, .int (nI (a0))), (3, .int (nI (an))), (4, .int (nI (b0))), (5, .int (nI (bn))), (6, .int (nI (fr))), (7, .int (nI (h9)))]) hx hb d_Be_multiplyTwice_5 hl (by decide) rfl (fun ls hl => ?_)
  refine lv_iload_n hx hb d_Be_multiplyTwice_7 rfl (lv_at hl 4 rfl) ?_
  refine lv_iload hx hb d_Be_multiplyTwice_8 (lv_at hl 0 rfl) ?_
  refine nw_isub (v := nI (an - hf)) hx hb d_Be_multiplyTwice_10 (pk_sub (by omega)) ?_
  refine lv_iload hx hb d_Be_multiplyTwice_11 (lv_at hl 6 rfl) ?_
  refine nw_iadd (v := nI (an - hf + bn)) hx hb d_Be_multiplyTwice_13 (nI_add _ _) ?_
  obtain ⟨up, hup⟩ : ∃ up, up = an - hf + bn := ⟨_, rfl⟩
  rw [← hup]
  refine lv_istore (lv' := [(9, .int (nI (up))), (8, .int (nI (hf))), (0, .ref (ad 2)), (1, .int (nI (r0))), (2, .int (nI (a0))), (3, .int (nI (an))), (4, .int (nI (b0))), (5, .int (nI (bn))), (6, .int (nI (fr))), (7, .int (nI (h9)))]) hx hb d_Be_multiplyTwice_14 hl (by decide) rfl (fun ls hl => ?_)
  refine lv_aload_n hx hb d_Be_multiplyTwice_16 rfl (lv_at hl 2 rfl) ?_
  refine lv_iload_n hx hb d_Be_multiplyTwice_17 rfl (lv_at hl 3 rfl) ?_
  refine lv_iload_n hx hb d_Be_multiplyTwice_18 rfl (lv_at hl 4 rfl) ?_
  refine lv_iload hx hb d_Be_multiplyTwice_19 (lv_at hl 1 rfl) ?_
  refine lv_iload hx hb d_Be_multiplyTwice_21 (lv_at hl 6 rfl) ?_
  refine lv_iload hx hb d_Be_multiplyTwice_23 (lv_at hl 7 rfl) ?_
  refine lv_iload hx hb d_Be_multiplyTwice_25 (lv_at hl 8 rfl) ?_
  refine lv_iload hx hb d_Be_multiplyTwice_27 (lv_at hl 9 rfl) ?_
  refine wV_v (As := [.int (nI (r0)), .int (nI (a0)), .int (nI (hf)), .int (nI (b0)), .int (nI (bn)), .int (nI (fr)), .int (nI (h9))]) (rest := []) (n := 7) ⟨hx, hb, hml, hown, hts⟩ (hM (w) _ (r0 := r0) (a0 := a0) (an := hf) (b0 := b0) (bn := bn) (fr := fr) (by omega) (by omega) (by omega) (by omega) (by omega) (by omega) (by omega) (by omega) (by omega) (Or.inl (by omega))) (cwV0 7 hts lm_Be_30 im_Be_multiply se_Be_multiply in_Be kq_Be_multiply rfl rfl rfl (by decide +kernel) ⟨by simp only [headSpec]; omega, by simp only [headSpec]; omega⟩) (recvB hKW.1 hP) hKW hP hD hS rfl hl.1 rfl (Nat.le_of_ble_eq_true rfl) d_Be_multiplyTwice_29 ⟨Nat.zero_le _, Nat.zero_le _⟩ (fun w1 H locs hp hP hD hS => ?_)
  obtain ⟨f1, ew, hs1, hv1⟩ := hp
  rw [ew] at hP hD
  refine lv_aload_n hx hb d_Be_multiplyTwice_32 rfl (lv_at hl 2 rfl) ?_
  refine lv_iload hx hb d_Be_multiplyTwice_33 (lv_at hl 8 rfl) ?_
  refine lv_iload_n hx hb d_Be_multiplyTwice_35 rfl (lv_at hl 4 rfl) ?_
  refine lv_iload hx hb d_Be_multiplyTwice_36 (lv_at hl 1 rfl) ?_
  refine nw_iadd (v := nI (a0 + hf)) hx hb d_Be_multiplyTwice_38 (nI_add _ _) ?_
  refine lv_iload_n hx hb d_Be_multiplyTwice_39 rfl (lv_at hl 5 rfl) ?_
  refine lv_iload hx hb d_Be_multiplyTwice_40 (lv_at hl 1 rfl) ?_
  refine nw_isub (v := nI (an - hf)) hx hb d_Be_multiplyTwice_42 (pk_sub (by omega)) ?_
  refine lv_iload hx hb d_Be_multiplyTwice_43 (lv_at hl 6 rfl) ?_
  refine lv_iload hx hb d_Be_multiplyTwice_45 (lv_at hl 7 rfl) ?_
  refine lv_iload hx hb d_Be_multiplyTwice_47 (lv_at hl 8 rfl) ?_
  refine lv_iload hx hb d_Be_multiplyTwice_49 (lv_at hl 0 rfl) ?_
  refine nw_iadd (v := nI (fr + up)) hx hb d_Be_multiplyTwice_51 (nI_add _ _) ?_
  refine lv_iload hx hb d_Be_multiplyTwice_52 (lv_at hl 9 rfl) ?_
  refine wV_v (As := [.int (nI (fr)), .int (nI (a0 + hf)), .int (nI (an - hf)), .int (nI (b0)), .int (nI (bn)), .int (nI (fr + up)), .int (nI (h9))]) (rest := []) (n := 7) ⟨hx, hb, hml, hown, hts⟩ (hM (pR w f1) _ (r0 := fr) (a0 := a0 + hf) (an := an - hf) (b0 := b0) (bn := bn) (fr := fr + up) (by omega) (by omega) (by omega) (by omega) (by omega) (by omega) (by omega) (by omega) (by omega) (Or.inl (by omega))) (cwV0 7 hts lm_Be_30 im_Be_multiply se_Be_multiply in_Be kq_Be_multiply rfl rfl rfl (by decide +kernel) ⟨by simp only [headSpec]; omega, by simp only [headSpec]; omega⟩) (recvB hKW.1 hP) hKW hP hD hS rfl hl.1 rfl (Nat.le_of_ble_eq_true rfl) d_Be_multiplyTwice_54 ⟨Nat.zero_le _, Nat.zero_le _⟩ (fun w1 H locs hp hP hD hS => ?_)
  obtain ⟨f2, ew, hs2, hv2⟩ := hp
  rw [ew] at hP hD
  have hs2 : so2 f2 f1 fr (an - hf + bn) (fr + up) (28672 - (fr + up)) := hs2
  have hv2 : vN f2 fr (an - hf + bn) = vN f1 (a0 + hf) (an - hf) * vN f1 b0 bn := hv2
  rw [hs1.vN (by omega) (by omega), hs1.vN (by omega) (by omega), ← hup] at hv2
  have hv2r : vN f2 r0 (hf + bn) = vN (sR w) a0 hf * vN (sR w) b0 bn := (hs2.vN (by omega) (by omega)).trans hv1
  refine lv_aload_n hx hb d_Be_multiplyTwice_57 rfl (lv_at hl 2 rfl) ?_
  refine nw_gR hx hb hts hown hKW.1 hP lf_Be_11 d_Be_multiplyTwice_58 ?_
  refine lv_iload_n hx hb d_Be_multiplyTwice_61 rfl (lv_at hl 3 rfl) ?_
  refine lv_iload hx hb d_Be_multiplyTwice_62 (lv_at hl 1 rfl) ?_
  refine nw_iadd (v := nI (r0 + hf)) hx hb d_Be_multiplyTwice_64 (nI_add _ _) ?_
  refine lv_iload hx hb d_Be_multiplyTwice_65 (lv_at hl 7 rfl) ?_
  refine nw_iadd (v := nI (r0 + hf + bn)) hx hb d_Be_multiplyTwice_67 (nI_add _ _) ?_
  refine lv_iload_n hx hb d_Be_multiplyTwice_68 rfl (lv_at hl 3 rfl) ?_
  refine lv_iload_n hx hb d_Be_multiplyTwice_69 rfl (lv_at hl 5 rfl) ?_
  refine nw_iadd (v := nI (r0 + an)) hx hb d_Be_multiplyTwice_70 (nI_add _ _) ?_
  refine lv_iload hx hb d_Be_multiplyTwice_71 (lv_at hl 7 rfl) ?_
  refine nw_iadd (v := nI (r0 + an + bn)) hx hb d_Be_multiplyTwice_73 (nI_add _ _) ?_
  refine lv_iconst (v := nI (0)) hx hb d_Be_multiplyTwice_74 (by decide) ?_
  refine wS_v (As := [.ref (ad 3), .int (nI (r0 + hf + bn)), .int (nI (r0 + an + bn)), .int (nI (0))]) (rest := []) (n := 4) ⟨hx, hb, hml, hown, hts⟩ (c_Ja_fillR l (pR w f2) _ (a := r0 + hf + bn) (b := r0 + an + bn) (by omega) (by omega) (nI 0)) (cwS0 4 hts lm_Be_93 st_Ja_fill in_Ja kq_Ja_fill rfl rfl rfl (by decide +kernel) ⟨by simp only [headSpec]; omega, by simp only [headSpec]; omega⟩) hKW hP hD hS rfl hl.1 rfl (Nat.le_of_ble_eq_true rfl) d_Be_multiplyTwice_75 ⟨Nat.zero_le _, Nat.zero_le _⟩ (fun w1 H locs hp hP hD hS => ?_)
  rw [hp] at hP hD
  have hv3 := tw_fill (a := a0) (b := b0) (r := r0) (an := an) (show hf ≤ an by omega) hv2r
  have hs3 : so (fl f2 (r0 + hf + bn) (r0 + an + bn) (nI 0)) f2 (r0 + hf + bn) (an - hf) := so_fl (by omega)
  obtain ⟨f3, hf3⟩ : ∃ f3, f3 = fl f2 (r0 + hf + bn) (r0 + an + bn) (nI 0) := ⟨_, rfl⟩
  have hP : va_P D clA (NC cI cB cR ad (pR w f3)) H := by rw [hf3]; exact hP
  have hD : va_D (AA ad s.heap.size) (NC cI cB cR ad (pR w f3)) := by rw [hf3]; exact hD
  rw [← hf3] at hv3 hs3
  refine lv_aload_n hx hb d_Be_multiplyTwice_78 rfl (lv_at hl 2 rfl) ?_
  refine lv_iload_n hx hb d_Be_multiplyTwice_79 rfl (lv_at hl 3 rfl) ?_
  refine lv_iload hx hb d_Be_multiplyTwice_80 (lv_at hl 1 rfl) ?_
  refine nw_iadd (v := nI (r0 + hf)) hx hb d_Be_multiplyTwice_82 (nI_add _ _) ?_
  refine lv_iload hx hb d_Be_multiplyTwice_83 (lv_at hl 0 rfl) ?_
  refine lv_iload hx hb d_Be_multiplyTwice_85 (lv_at hl 8 rfl) ?_
  refine lv_iload hx hb d_Be_multiplyTwice_87 (lv_at hl 0 rfl) ?_
  refine wV_i (As := [.int (nI (r0 + hf)), .int (nI (up)), .int (nI (fr)), .int (nI (up))]) (rest := []) (n := 4) ⟨hx, hb, hml, hown, hts⟩ (c_Be_addInto l (pR w f3) _ (t0 := r0 + hf) (tc := up) (s0 := fr) (cnt := up) (by omega) (by omega) (by omega) (by omega)) (cwV0 4 hts lm_Be_105 im_Be_addInto se_Be_addInto in_Be kq_Be_addInto rfl rfl rfl (by decide +kernel) ⟨by simp only [headSpec]; omega, by simp only [headSpec]; omega⟩) (recvB hKW.1 hP) hKW hP hD hS rfl hl.1 rfl (Nat.le_of_ble_eq_true rfl) d_Be_multiplyTwice_89 ⟨Nat.zero_le _, Nat.zero_le _⟩ (fun r w1 H locs hp hP hD hS => ?_)
  obtain ⟨f4, cy, ew, er, hcy, hs4, hv4⟩ := hp
  rw [ew] at hP hD
  subst er
  have hs4 : so f4 f3 (r0 + hf) up := hs4
  have hv4 : vN f4 (r0 + hf) up + cy * 4294967296 ^ up = vN f3 (r0 + hf) up + vN f3 fr up := hv4
  rw [hs3.vN (b := fr) (m := up) (by omega), hv2] at hv4
  refine lv_pop hx hb d_Be_multiplyTwice_92 rfl ?_
  exact W.vret hx hb hr (fun t ht hW => ⟨⟨pR w f4, rfl, ⟨f4, rfl, fun q p1 p2 => by rw [hs4 q (by omega), hs3 q (by omega), hs2 q (by omega) (by omega), hs1 q (by omega) (by omega)], tw_end (by omega) hup hv3 hs4 hv4⟩, BW_of ht hP⟩, hS.F ht⟩) hS.2.2 d_Be_multiplyTwice_93
set_option maxHeartbeats 4000000 in
set_option maxRecDepth 100000 in
/-- multiplyThrice(r, a, an, b, bn, free, halvings) -/
theorem c_Be_multiplyThrice (l : Launch) {D : va_G} {cI cB cR : ClassId} {ad : Nat → Nat} (w : St) (sz : Nat) {r0 a0 an b0 bn fr h9 : Nat} (hM : MulAt l D cI cB cR ad h9) (h1a : (max an bn + 1) / 2 < an) (h1b : (max an bn + 1) / 2 < bn) (hab : a0 = b0 ∧ an = bn ∨ a0 + an ≤ b0 ∨ b0 + bn ≤ a0) (hfa : a0 + an ≤ fr) (hfb : b0 + bn ≤ fr) (hfr : r0 + an + bn ≤ fr) (hf9 : fr ≤ 28672) (hda : a0 + an ≤ r0 ∨ r0 + an + bn ≤ a0) (hdb : b0 + bn ≤ r0 ∨ r0 + an + bn ≤ b0) (hh9 : h9 ≤ 100) (hE : 2 * fr + 8 * ((max an bn + 1) / 2) + 4 * h9 + 6 ≤ 57344) : Met l y_Be_multiplyThrice (q_Be_multiplyThrice :: wA) { frames := 2 * h9 + 4, cells := 0, slots := 0, locals := 80 * h9 + 160 } (va_Pc [.ref (ad 2), .int (nI (r0)), .int (nI (a0)), .int (nI (an)), .int (nI (b0)), .int (nI (bn)), .int (nI (fr)), .int (nI (h9))] (PW D cI cB cR ad w sz)) (va_Qv (fun w1 : St => ∃ f : Nat → Int32, w1 = pR w f ∧ so2 f (sR w) r0 (an + bn) fr (28672 - fr) ∧ vN f r0 (an + bn) = vN (sR w) a0 an * vN (sR w) b0 bn) (BW D cI cB cR ad) (AA ad sz)) 0 0 (AA ad sz) := by
  refine Met.ofW (cc := b_Be_multiplyThrice) (maxL := 15) (ret := none) (by decide) rfl ?_
  intro p e s m args below meth c s₁ B hml hv
  obtain ⟨rfl, hsz, hP, hD0, hKW⟩ := hv
  have hx := B.exec
  have hb := B.bytes
  have hr := B.returns
  have hts := atoms_spec (ws := q_Be_multiplyThrice :: wA) B.pre
  have hown : s.vm.findClass R_Be = some m.cls := findClass_of_methodNamed B.named
  have hlocks := B.notSynchronized
  subst hsz
  have hD := NC_AA (sz := s.heap.size) hD0
  have hS : va_S (AA ad s.heap.size) s.heap s.heap [] := va_S.rf
  have hl := lv_entry ([.ref (ad 2), .int (nI (r0)), .int (nI (a0)), .int (nI (an)), .int (nI (b0)), .int (nI (bn)), .int (nI (fr)), .int (nI (h9))]) (n := 15) (Nat.le_of_ble_eq_true rfl)
  rw [lg_entry_eq]
  generalize (lg_sl ([.ref (ad 2), .int (nI (r0)), .int (nI (a0)), .int (nI (an)), .int (nI (b0)), .int (nI (bn)), .int (nI (fr)), .int (nI (h9))]) ++ List.replicate (15 - (lg_sl ([.ref (ad 2), .int (nI (r0)), .int (nI (a0)), .int (nI (an)), .int (nI (b0)), .int (nI (bn)), .int (nI (fr)), .int (nI (h9))])).length) Slot.unset).toArray = ls at hl ⊢
  have hl : lv_has ls 15 [(0, .ref (ad 2)), (1, .int (nI (r0))), (2, .int (nI (a0))), (3, .int (nI (an))), (4, .int (nI (b0))), (5, .int (nI (bn))), (6, .int (nI (fr))), (7, .int (nI (h9)))] := hl
  refine lv_iload_n hx hb d_Be_multiplyThrice_0 rfl (lv_at hl 3 rfl) ?_
  refine lv_iload hx hb d_Be_multiplyThrice_1 (lv_at hl 5 rfl) ?_
  refine nw_max hx hb (hml.trans hl.1.symm) hts hown lm_Be_54 (by simp only [headSpec]; omega) (Nat.le_trans (Nat.le_of_ble_eq_true rfl : _ ≤ 120) (by simp only [headSpec]; omega)) (Nat.zero_le _) (Nat.zero_le _) (nI_max (by omega) (by omega)) d_Be_multiplyThrice_3 ?_
  refine lv_iconst (v := nI (1)) hx hb d_Be_multiplyThrice_6 (by decide) ?_
  refine nw_iadd (v := nI (max an bn + 1)) hx hb d_Be_multiplyThrice_7 (nI_add _ _) ?_
  refine lv_iconst (v := nI (2)) hx hb d_Be_multiplyThrice_8 (by decide) ?_
  refine nw_idiv (v := nI ((max an bn + 1) / 2)) hx hb d_Be_multiplyThrice_9 (nI_ne0 (by omega) (by omega)) (pk_div (by omega) (by omega) (by omega)) ?_
  obtain ⟨hf, hhf⟩ : ∃ hf, hf = (max an bn + 1) / 2 := ⟨_, rfl⟩
  rw [← hhf] at h1a h1b hE ⊢
  refine lv_istore (lv' := [(8, .int (nI (hf))), (0, .ref (ad 2)), (1, .int (nI (r0))), (2, .int (nI (a0))), (3, .int (nI (an))), (4, .int (nI (b0))), (5, .int (nI (bn))), (6, .int (nI (fr))), (7, .int (nI (h9)))]) hx hb d_Be_multiplyThrice_10 hl (by decide) rfl (fun ls hl => ?_)
  refine lv_iload_n hx hb d_Be_multiplyThrice_12 rfl (lv_at hl 4 rfl) ?_
  refine lv_iload hx hb d_Be_multiplyThrice_13 (lv_at hl 6 rfl) ?_
  refine nw_iadd (v := nI (an + bn)) hx hb d_Be_multiplyThrice_15 (nI_add _ _) ?_
  refine lv_iconst (v := nI (2)) hx hb d_Be_multiplyThrice_16 (by decide) ?_
  refine lv_iload hx hb d_Be_multiplyThrice_17 (lv_at hl 0 rfl) ?_
  refine nw_imul (v := nI (2 * hf)) hx hb d_Be_multiplyThrice_19 (pk_mul _ _) ?_
  refine nw_isub (v := nI (an + bn - (2 * hf))) hx hb d_Be_multiplyThrice_20 (pk_sub (by omega)) ?_
  obtain ⟨up, hup⟩ : ∃ up, up = an + bn - 2 * hf := ⟨_, rfl⟩
  rw [← hup]
  refine lv_istore (lv' := [(9, .int (nI (up))), (8, .int (nI (hf))), (0, .ref (ad 2)), (1, .int (nI (r0))), (2, .int (nI (a0))), (3, .int (nI (an))), (4, .int (nI (b0))), (5, .int (nI (bn))), (6, .int (nI (fr))), (7, .int (nI (h9)))]) hx hb d_Be_multiplyThrice_21 hl (by decide) rfl (fun ls hl => ?_)
  refine lv_iload_n hx hb d_Be_multiplyThrice_23 rfl (lv_at hl 4 rfl) ?_
  refine lv_iload hx hb d_Be_multiplyThrice_24 (lv_at hl 6 rfl) ?_
  have rest : ∀ (rt : Nat) (ls : Array Slot), (a0 = b0 ∧ rt = r0 ∨ rt = r0 + hf) → lv_has ls 15 [(10, .int (nI (rt))), (9, .int (nI (up))), (8, .int (nI (hf))), (0, .ref (ad 2)), (1, .int (nI (r0))), (2, .int (nI (a0))), (3, .int (nI (an))), (4, .int (nI (b0))), (5, .int (nI (bn))), (6, .int (nI (fr))), (7, .int (nI (h9)))] → W p l e (headSpec (q_Be_multiplyThrice :: wA) { frames := 2 * h9 + 4, cells := 0, slots := 0, locals := 80 * h9 + 160 }).room s m ([.ref (ad 2), .int (nI (r0)), .int (nI (a0)), .int (nI (an)), .int (nI (b0)), .int (nI (bn)), .int (nI (fr)), .int (nI (h9))] : List Value).toArray below meth c s.heap [] 0 0 (MQ below (va_Qv (fun w1 : St => ∃ f : Nat → Int32, w1 = pR w f ∧ so2 f (sR w) r0 (an + bn) fr (28672 - fr) ∧ vN f r0 (an + bn) = vN (sR w) a0 an * vN (sR w) b0 bn) (BW D cI cB cR ad) (AA ad s.heap.size)) ([.ref (ad 2), .int (nI (r0)), .int (nI (a0)), .int (nI (an)), .int (nI (b0)), .int (nI (bn)), .int (nI (fr)), .int (nI (h9))] : List Value).toArray s 0 0 (AA ad s.heap.size)) (F0 m 39 ls []) := by
    intro rt ls hrt hl
    refine lv_aload_n hx hb d_Be_multiplyThrice_39 rfl (lv_at hl 3 rfl) ?_
    refine lv_iload_n hx hb d_Be_multiplyThrice_40 rfl (lv_at hl 4 rfl) ?_
    refine lv_iload_n hx hb d_Be_multiplyThrice_41 rfl (lv_at hl 5 rfl) ?_
    refine lv_iload hx hb d_Be_multiplyThrice_42 (lv_at hl 2 rfl) ?_
    refine lv_iload_n hx hb d_Be_multiplyThrice_44 rfl (lv_at hl 6 rfl) ?_
    refine lv_iload hx hb d_Be_multiplyThrice_45 (lv_at hl 2 rfl) ?_
    refine nw_isub (v := nI (an - hf)) hx hb d_Be_multiplyThrice_47 (pk_sub (by omega)) ?_
    refine wV_i (As := [.int (nI (r0)), .int (nI (a0)), .int (nI (hf)), .int (nI (an - hf))]) (rest := []) (n := 4) ⟨hx, hb, hml, hown, hts⟩ (c_Be_layDifference l w _ (r0 := r0) (a0 := a0) (hf := hf) (oth := an - hf) (by omega) (by omega) (by omega) (by omega)) (cwV0 4 hts lm_Be_109 im_Be_layDifference se_Be_layDifference in_Be kq_Be_layDifference rfl rfl rfl (by decide +kernel) ⟨by simp only [headSpec]; omega, by simp only [headSpec]; omega⟩) (recvB hKW.1 hP) hKW hP hD hS rfl hl.1 rfl (Nat.le_of_ble_eq_true rfl) d_Be_multiplyThrice_48 ⟨Nat.zero_le _, Nat.zero_le _⟩ (fun r w1 H locs hp hP hD hS => ?_)
    obtain ⟨f1, ew, hs1, hd1⟩ := hp
    rw [ew] at hP hD
    obtain ⟨β, er, hβ, hg1⟩ := sgn_of hd1
    subst er
    refine lv_istore (lv' := [(11, .int (nI (β))), (10, .int (nI (rt))), (9, .int (nI (up))), (8, .int (nI (hf))), (0, .ref (ad 2)), (1, .int (nI (r0))), (2, .int (nI (a0))), (3, .int (nI (an))), (4, .int (nI (b0))), (5, .int (nI (bn))), (6, .int (nI (fr))), (7, .int (nI (h9)))]) hx hb d_Be_multiplyThrice_51 hl (by decide) rfl (fun ls hl => ?_)
    refine lv_aload_n hx hb d_Be_multiplyThrice_53 rfl (lv_at hl 4 rfl) ?_
    refine lv_iload hx hb d_Be_multiplyThrice_54 (lv_at hl 1 rfl) ?_
    refine lv_iload hx hb d_Be_multiplyThrice_56 (lv_at hl 8 rfl) ?_
    refine lv_iload hx hb d_Be_multiplyThrice_58 (lv_at hl 3 rfl) ?_
    refine lv_iload hx hb d_Be_multiplyThrice_60 (lv_at hl 9 rfl) ?_
    refine lv_iload hx hb d_Be_multiplyThrice_62 (lv_at hl 3 rfl) ?_
    refine nw_isub (v := nI (bn - hf)) hx hb d_Be_multiplyThrice_64 (pk_sub (by omega)) ?_
    refine wV_i (As := [.int (nI (rt)), .int (nI (b0)), .int (nI (hf)), .int (nI (bn - hf))]) (rest := []) (n := 4) ⟨hx, hb, hml, hown, hts⟩ (c_Be_layDifference l (pR w f1) _ (r0 := rt) (a0 := b0) (hf := hf) (oth := bn - hf) (by omega) (by omega) (by omega) (by omega)) (cwV0 4 hts lm_Be_109 im_Be_layDifference se_Be_layDifference in_Be kq_Be_layDifference rfl rfl rfl (by decide +kernel) ⟨by simp only [headSpec]; omega, by simp only [headSpec]; omega⟩) (recvB hKW.1 hP) hKW hP hD hS rfl hl.1 rfl (Nat.le_of_ble_eq_true rfl) d_Be_multiplyThrice_65 ⟨Nat.zero_le _, Nat.zero_le _⟩ (fun r w1 H locs hp hP hD hS => ?_)
    obtain ⟨f2, ew, hs2, hd2⟩ := hp
    rw [ew] at hP hD
    obtain ⟨γ, er, hγ, hg2⟩ := sgn_of hd2
    subst er
    have hs2 : so f2 f1 rt hf := hs2
    have hg2 : sgn γ (vN f1 b0 hf) (vN f1 (b0 + hf) (bn - hf)) (vN f2 rt hf) := hg2
    rw [hs1.vN (b := b0) (m := hf) (by omega), hs1.vN (b := b0 + hf) (m := bn - hf) (by omega)] at hg2
    have hxx : vN f2 r0 hf = vN f1 r0 hf := by
      rcases hrt with ⟨e0, e1⟩ | e1
      · have e2 : an = bn := by omega
        subst e1
        rw [← e0, ← e2] at hg2
        rcases hg1 with ⟨_, q1⟩ | ⟨_, q1⟩ <;> rcases hg2 with ⟨_, q2⟩ | ⟨_, q2⟩ <;> omega
      · exact hs2.vN (by omega)
    rw [← hxx] at hg1
    have hs12 : so f2 (sR w) r0 (an + bn) := fun q hq => by rw [hs2 q (by omega), hs1 q (by omega)]
    refine lv_istore (lv' := [(12, .int (nI (γ))), (11, .int (nI (β))), (10, .int (nI (rt))), (9, .int (nI (up))), (8, .int (nI (hf))), (0, .ref (ad 2)), (1, .int (nI (r0))), (2, .int (nI (a0))), (3, .int (nI (an))), (4, .int (nI (b0))), (5, .int (nI (bn))), (6, .int (nI (fr))), (7, .int (nI (h9)))]) hx hb d_Be_multiplyThrice_68 hl (by decide) rfl (fun ls hl => ?_)
    refine lv_iload hx hb d_Be_multiplyThrice_70 (lv_at hl 11 rfl) ?_
    refine lv_iconst (v := nI (2)) hx hb d_Be_multiplyThrice_72 (by decide) ?_
    refine lv_iload hx hb d_Be_multiplyThrice_73 (lv_at hl 4 rfl) ?_
    refine nw_imul (v := nI (2 * hf)) hx hb d_Be_multiplyThrice_75 (pk_mul _ _) ?_
    refine nw_iadd (v := nI (fr + (2 * hf))) hx hb d_Be_multiplyThrice_76 (nI_add _ _) ?_
    obtain ⟨mx, hmx⟩ : ∃ mx, mx = fr + 2 * hf := ⟨_, rfl⟩
    rw [← hmx]
    refine lv_istore (lv' := [(13, .int (nI (mx))), (12, .int (nI (γ))), (11, .int (nI (β))), (10, .int (nI (rt))), (9, .int (nI (up))), (8, .int (nI (hf))), (0, .ref (ad 2)), (1, .int (nI (r0))), (2, .int (nI (a0))), (3, .int (nI (an))), (4, .int (nI (b0))), (5, .int (nI (bn))), (6, .int (nI (fr))), (7, .int (nI (h9)))]) hx hb d_Be_multiplyThrice_77 hl (by decide) rfl (fun ls hl => ?_)
    refine lv_aload_n hx hb d_Be_multiplyThrice_79 rfl (lv_at hl 6 rfl) ?_
    refine lv_iload hx hb d_Be_multiplyThrice_80 (lv_at hl 12 rfl) ?_
    refine lv_iload_n hx hb d_Be_multiplyThrice_82 rfl (lv_at hl 7 rfl) ?_
    refine lv_iload hx hb d_Be_multiplyThrice_83 (lv_at hl 5 rfl) ?_
    refine lv_iload hx hb d_Be_multiplyThrice_85 (lv_at hl 3 rfl) ?_
    refine lv_iload hx hb d_Be_multiplyThrice_87 (lv_at hl 5 rfl) ?_
    refine lv_iload hx hb d_Be_multiplyThrice_89 (lv_at hl 0 rfl) ?_
    refine lv_iload hx hb d_Be_multiplyThrice_91 (lv_at hl 13 rfl) ?_
    refine wV_v (As := [.int (nI (fr)), .int (nI (r0)), .int (nI (hf)), .int (nI (rt)), .int (nI (hf)), .int (nI (mx)), .int (nI (h9))]) (rest := []) (n := 7) ⟨hx, hb, hml, hown, hts⟩ (hM (pR w f2) _ (r0 := fr) (a0 := r0) (an := hf) (b0 := rt) (bn := hf) (fr := mx) (by omega) (by omega) (by omega) (by omega) (by omega) (by omega) (by omega) (by omega) (by omega) (Or.inl (by omega))) (cwV0 7 hts lm_Be_30 im_Be_multiply se_Be_multiply in_Be kq_Be_multiply rfl rfl rfl (by decide +kernel) ⟨by simp only [headSpec]; omega, by simp only [headSpec]; omega⟩) (recvB hKW.1 hP) hKW hP hD hS rfl hl.1 rfl (Nat.le_of_ble_eq_true rfl) d_Be_multiplyThrice_93 ⟨Nat.zero_le _, Nat.zero_le _⟩ (fun w1 H locs hp hP hD hS => ?_)
    obtain ⟨f3, ew, hs3, hv3⟩ := hp
    rw [ew] at hP hD
    have hs3 : so2 f3 f2 fr (hf + hf) mx (28672 - mx) := hs3
    have hv3 : vN f3 fr (hf + hf) = vN f2 r0 hf * vN f2 rt hf := hv3
    refine lv_aload_n hx hb d_Be_multiplyThrice_96 rfl (lv_at hl 6 rfl) ?_
    refine lv_iload_n hx hb d_Be_multiplyThrice_97 rfl (lv_at hl 7 rfl) ?_
    refine lv_iload_n hx hb d_Be_multiplyThrice_98 rfl (lv_at hl 8 rfl) ?_
    refine lv_iload hx hb d_Be_multiplyThrice_99 (lv_at hl 5 rfl) ?_
    refine lv_iload hx hb d_Be_multiplyThrice_101 (lv_at hl 10 rfl) ?_
    refine lv_iload hx hb d_Be_multiplyThrice_103 (lv_at hl 5 rfl) ?_
    refine lv_iload hx hb d_Be_multiplyThrice_105 (lv_at hl 0 rfl) ?_
    refine lv_iload hx hb d_Be_multiplyThrice_107 (lv_at hl 13 rfl) ?_
    refine wV_v (As := [.int (nI (r0)), .int (nI (a0)), .int (nI (hf)), .int (nI (b0)), .int (nI (hf)), .int (nI (mx)), .int (nI (h9))]) (rest := []) (n := 7) ⟨hx, hb, hml, hown, hts⟩ (hM (pR w f3) _ (r0 := r0) (a0 := a0) (an := hf) (b0 := b0) (bn := hf) (fr := mx) (by omega) (by omega) (by omega) (by omega) (by omega) (by omega) (by omega) (by omega) (by omega) (Or.inl (by omega))) (cwV0 7 hts lm_Be_30 im_Be_multiply se_Be_multiply in_Be kq_Be_multiply rfl rfl rfl (by decide +kernel) ⟨by simp only [headSpec]; omega, by simp only [headSpec]; omega⟩) (recvB hKW.1 hP) hKW hP hD hS rfl hl.1 rfl (Nat.le_of_ble_eq_true rfl) d_Be_multiplyThrice_109 ⟨Nat.zero_le _, Nat.zero_le _⟩ (fun w1 H locs hp hP hD hS => ?_)
    obtain ⟨f4, ew, hs4, hv4⟩ := hp
    rw [ew] at hP hD
    have hs4 : so2 f4 f3 r0 (hf + hf) mx (28672 - mx) := hs4
    have hv4 : vN f4 r0 (hf + hf) = vN f3 a0 hf * vN f3 b0 hf := hv4
    refine lv_aload_n hx hb d_Be_multiplyThrice_112 rfl (lv_at hl 6 rfl) ?_
    refine lv_iload_n hx hb d_Be_multiplyThrice_113 rfl (lv_at hl 7 rfl) ?_
    refine lv_iconst (v := nI (2)) hx hb d_Be_multiplyThrice_114 (by decide) ?_
    refine lv_iload hx hb d_Be_multiplyThrice_115 (lv_at hl 5 rfl) ?_
    refine nw_imul (v := nI (2 * hf)) hx hb d_Be_multiplyThrice_117 (pk_mul _ _) ?_
    refine nw_iadd (v := nI (r0 + (2 * hf))) hx hb d_Be_multiplyThrice_118 (nI_add _ _) ?_
    refine lv_iload_n hx hb d_Be_multiplyThrice_119 rfl (lv_at hl 8 rfl) ?_
    refine lv_iload hx hb d_Be_multiplyThrice_120 (lv_at hl 5 rfl) ?_
    refine nw_iadd (v := nI (a0 + hf)) hx hb d_Be_multiplyThrice_122 (nI_add _ _) ?_
    refine lv_iload_n hx hb d_Be_multiplyThrice_123 rfl (lv_at hl 9 rfl) ?_
    refine lv_iload hx hb d_Be_multiplyThrice_124 (lv_at hl 5 rfl) ?_
    refine nw_isub (v := nI (an - hf)) hx hb d_Be_multiplyThrice_126 (pk_sub (by omega)) ?_
    refine lv_iload hx hb d_Be_multiplyThrice_127 (lv_at hl 10 rfl) ?_
    refine lv_iload hx hb d_Be_multiplyThrice_129 (lv_at hl 5 rfl) ?_
    refine nw_iadd (v := nI (b0 + hf)) hx hb d_Be_multiplyThrice_131 (nI_add _ _) ?_
    refine lv_iload hx hb d_Be_multiplyThrice_132 (lv_at hl 11 rfl) ?_
    refine lv_iload hx hb d_Be_multiplyThrice_134 (lv_at hl 5 rfl) ?_
    refine nw_isub (v := nI (bn - hf)) hx hb d_Be_multiplyThrice_136 (pk_sub (by omega)) ?_
    refine lv_iload hx hb d_Be_multiplyThrice_137 (lv_at hl 0 rfl) ?_
    refine lv_iload hx hb d_Be_multiplyThrice_139 (lv_at hl 13 rfl) ?_
    refine wV_v (As := [.int (nI (r0 + (2 * hf))), .int (nI (a0 + hf)), .int (nI (an - hf)), .int (nI (b0 + hf)), .int (nI (bn - hf)), .int (nI (mx)), .int (nI (h9))]) (rest := []) (n := 7) ⟨hx, hb, hml, hown, hts⟩ (hM (pR w f4) _ (r0 := r0 + 2 * hf) (a0 := a0 + hf) (an := an - hf) (b0 := b0 + hf) (bn := bn - hf) (fr := mx) (by omega) (by omega) (by omega) (by omega) (by omega) (by omega) (by omega) (by omega) (by omega) (Or.inl (by omega))) (cwV0 7 hts lm_Be_30 im_Be_multiply se_Be_multiply in_Be kq_Be_multiply rfl rfl rfl (by decide +kernel) ⟨by simp only [headSpec]; omega, by simp only [headSpec]; omega⟩) (recvB hKW.1 hP) hKW hP hD hS rfl hl.1 rfl (Nat.le_of_ble_eq_true rfl) d_Be_multiplyThrice_141 ⟨Nat.zero_le _, Nat.zero_le _⟩ (fun w1 H locs hp hP hD hS => ?_)
    obtain ⟨f5, ew, hs5, hv5⟩ := hp
    rw [ew] at hP hD
    have hs5 : so2 f5 f4 (r0 + 2 * hf) (an - hf + (bn - hf)) mx (28672 - mx) := hs5
    have hv5 : vN f5 (r0 + 2 * hf) (an - hf + (bn - hf)) = vN f4 (a0 + hf) (an - hf) * vN f4 (b0 + hf) (bn - hf) := hv5
    have z3 : ∀ {p n : Nat}, (p + n ≤ r0 ∨ r0 + an + bn ≤ p) → p + n ≤ fr → vN f3 p n = vN (sR w) p n := fun h h2 => (hs3.vN (by omega) (by omega)).trans (hs12.vN (by omega))
    have z4 : ∀ {p n : Nat}, (p + n ≤ r0 ∨ r0 + an + bn ≤ p) → p + n ≤ fr → vN f4 p n = vN (sR w) p n := fun h h2 => (hs4.vN (by omega) (by omega)).trans (z3 h h2)
    have v0 : vN f5 r0 (2 * hf) = vN (sR w) a0 hf * vN (sR w) b0 hf := by rw [hs5.vN (by omega) (by omega), Nat.two_mul, hv4, z3 (by omega) (by omega), z3 (by omega) (by omega)]
    have v2 : vN f5 (r0 + 2 * hf) up = vN (sR w) (a0 + hf) (an - hf) * vN (sR w) (b0 + hf) (bn - hf) := by rw [show up = an - hf + (bn - hf) by omega, hv5, z4 (by omega) (by omega), z4 (by omega) (by omega)]
    have v1 : vN f5 fr (2 * hf) = vN f2 r0 hf * vN f2 rt hf := by rw [hs5.vN (by omega) (by omega), hs4.vN (by omega) (by omega), Nat.two_mul, hv3]
    refine lv_iconst (v := nI (2)) hx hb d_Be_multiplyThrice_144 (by decide) ?_
    refine lv_iload hx hb d_Be_multiplyThrice_145 (lv_at hl 5 rfl) ?_
    refine nw_imul (v := nI (2 * hf)) hx hb d_Be_multiplyThrice_147 (pk_mul _ _) ?_
    refine lv_iconst (v := nI (1)) hx hb d_Be_multiplyThrice_148 (by decide) ?_
    refine nw_iadd (v := nI (2 * hf + 1)) hx hb d_Be_multiplyThrice_149 (nI_add _ _) ?_
    obtain ⟨ml, hml9⟩ : ∃ ml, ml = 2 * hf + 1 := ⟨_, rfl⟩
    rw [← hml9]
    refine lv_istore (lv' := [(14, .int (nI (ml))), (13, .int (nI (mx))), (12, .int (nI (γ))), (11, .int (nI (β))), (10, .int (nI (rt))), (9, .int (nI (up))), (8, .int (nI (hf))), (0, .ref (ad 2)), (1, .int (nI (r0))), (2, .int (nI (a0))), (3, .int (nI (an))), (4, .int (nI (b0))), (5, .int (nI (bn))), (6, .int (nI (fr))), (7, .int (nI (h9)))]) hx hb d_Be_multiplyThrice_150 hl (by decide) rfl (fun ls hl => ?_)
    refine lv_aload_n hx hb d_Be_multiplyThrice_152 rfl (lv_at hl 7 rfl) ?_
    refine nw_gR hx hb hts hown hKW.1 hP lf_Be_11 d_Be_multiplyThrice_153 ?_
    refine lv_iload_n hx hb d_Be_multiplyThrice_156 rfl (lv_at hl 8 rfl) ?_
    refine lv_aload_n hx hb d_Be_multiplyThrice_157 rfl (lv_at hl 7 rfl) ?_
    refine nw_gR hx hb hts hown hKW.1 hP lf_Be_11 d_Be_multiplyThrice_158 ?_
    refine lv_iload hx hb d_Be_multiplyThrice_161 (lv_at hl 1 rfl) ?_
    refine lv_iconst (v := nI (2)) hx hb d_Be_multiplyThrice_163 (by decide) ?_
    refine lv_iload hx hb d_Be_multiplyThrice_164 (lv_at hl 6 rfl) ?_
    refine nw_imul (v := nI (2 * hf)) hx hb d_Be_multiplyThrice_166 (pk_mul _ _) ?_
    refine nw_cRR hx hb (hml.trans hl.1.symm) hts hown lm_Be_24 hKW.1 hP hD hS (sp := r0) (dp := mx) (n := 2 * hf) (by omega) (by omega) (by simp only [headSpec]; omega) (Nat.le_trans (Nat.le_of_ble_eq_true rfl : _ ≤ 120) (by simp only [headSpec]; omega)) d_Be_multiplyThrice_167 (fun H locs hP hD hS => ?_)
    obtain ⟨f6, hf6⟩ : ∃ f6, f6 = va_cpy f5 f5 r0 mx (2 * hf) := ⟨_, rfl⟩
    have hP : va_P D clA (NC cI cB cR ad (pR w f6)) H := by rw [hf6]; exact hP
    have hD : va_D (AA ad s.heap.size) (NC cI cB cR ad (pR w f6)) := by rw [hf6]; exact hD
    refine lv_aload_n hx hb d_Be_multiplyThrice_170 rfl (lv_at hl 7 rfl) ?_
    refine nw_gR hx hb hts hown hKW.1 hP lf_Be_11 d_Be_multiplyThrice_171 ?_
    refine lv_iload hx hb d_Be_multiplyThrice_174 (lv_at hl 1 rfl) ?_
    refine lv_iconst (v := nI (2)) hx hb d_Be_multiplyThrice_176 (by decide) ?_
    refine lv_iload hx hb d_Be_multiplyThrice_177 (lv_at hl 6 rfl) ?_
    refine nw_imul (v := nI (2 * hf)) hx hb d_Be_multiplyThrice_179 (pk_mul _ _) ?_
    refine nw_iadd (v := nI (mx + (2 * hf))) hx hb d_Be_multiplyThrice_180 (nI_add _ _) ?_
    refine lv_iconst (v := nI (0)) hx hb d_Be_multiplyThrice_181 (by decide) ?_
    refine nw_sR hx hb hKW.1 hP hD hS (j := mx + (2 * hf)) (by omega) d_Be_multiplyThrice_182 (fun H locs hP hD hS => ?_)
    obtain ⟨f7, hf7⟩ : ∃ f7, f7 = upd f6 (mx + 2 * hf) (nI 0) := ⟨_, rfl⟩
    have hP : va_P D clA (NC cI cB cR ad (pR w f7)) H := by rw [hf7]; exact hP
    have hD : va_D (AA ad s.heap.size) (NC cI cB cR ad (pR w f7)) := by rw [hf7]; exact hD
    have hs7 : ∀ q, (q < mx ∨ mx + ml ≤ q) → f7 q = f5 q := fun q hq => by rw [hf7, pk_un (by omega), hf6]; exact cpy_out (by omega)
    have v7 : vN f7 mx ml = vN f5 r0 (2 * hf) := by
      rw [hml9, vN_sucA, hf7, pk_us, nI_0, wN_0, vN_out (by omega), hf6, cpy_vN]
      omega
    refine lv_aload_n hx hb d_Be_multiplyThrice_183 rfl (lv_at hl 7 rfl) ?_
    refine lv_iload hx hb d_Be_multiplyThrice_184 (lv_at hl 1 rfl) ?_
    refine lv_iload hx hb d_Be_multiplyThrice_186 (lv_at hl 0 rfl) ?_
    refine lv_iload_n hx hb d_Be_multiplyThrice_188 rfl (lv_at hl 8 rfl) ?_
    refine lv_iconst (v := nI (2)) hx hb d_Be_multiplyThrice_189 (by decide) ?_
    refine lv_iload hx hb d_Be_multiplyThrice_190 (lv_at hl 6 rfl) ?_
    refine nw_imul (v := nI (2 * hf)) hx hb d_Be_multiplyThrice_192 (pk_mul _ _) ?_
    refine nw_iadd (v := nI (r0 + (2 * hf))) hx hb d_Be_multiplyThrice_193 (nI_add _ _) ?_
    refine lv_iload hx hb d_Be_multiplyThrice_194 (lv_at hl 5 rfl) ?_
    have z7 : ∀ {p n : Nat}, p + n ≤ mx → vN f7 p n = vN f5 p n := fun h => vN_congr (fun i hi => hs7 _ (by omega))
    obtain ⟨kk1, kk2⟩ := kar_2h (g := sR w) (a := a0) (b := b0) (an := an) (bn := bn) (hf := hf) (by omega) (by omega)
    rw [← hml9] at kk1 kk2
    refine wV_i (As := [.int (nI (mx)), .int (nI (ml)), .int (nI (r0 + (2 * hf))), .int (nI (up))]) (rest := []) (n := 4) ⟨hx, hb, hml, hown, hts⟩ (c_Be_addInto l (pR w f7) _ (t0 := mx) (tc := ml) (s0 := r0 + 2 * hf) (cnt := up) (by omega) (by omega) (by omega) (by omega)) (cwV0 4 hts lm_Be_105 im_Be_addInto se_Be_addInto in_Be kq_Be_addInto rfl rfl rfl (by decide +kernel) ⟨by simp only [headSpec]; omega, by simp only [headSpec]; omega⟩) (recvB hKW.1 hP) hKW hP hD hS rfl hl.1 rfl (Nat.le_of_ble_eq_true rfl) d_Be_multiplyThrice_196 ⟨Nat.zero_le _, Nat.zero_le _⟩ (fun r w1 H locs hp hP hD hS => ?_)
    obtain ⟨f8, cy, ew, er, hcy, hs8, hv8⟩ := hp
    rw [ew] at hP hD
    subst er
    have hs8 : so f8 f7 mx ml := hs8
    have hv8 : vN f8 mx ml + cy * 4294967296 ^ ml = vN f7 mx ml + vN f7 (r0 + 2 * hf) up := hv8
    rw [v7, z7 (by omega), v0, v2] at hv8
    have v8 := no_cy hv8 kk1
    refine lv_pop hx hb d_Be_multiplyThrice_199 rfl ?_
    refine lv_iload hx hb d_Be_multiplyThrice_200 (lv_at hl 3 rfl) ?_
    refine lv_iload hx hb d_Be_multiplyThrice_202 (lv_at hl 2 rfl) ?_
    have rest2 : ∀ (f9 : Nat → Int32) (H : Heap) (locs : List Loc) (ls : Array Slot), so f9 f8 mx ml → vN f9 mx ml = vN (sR w) a0 hf * vN (sR w) (b0 + hf) (bn - hf) + vN (sR w) (a0 + hf) (an - hf) * vN (sR w) b0 hf → va_P D clA (NC cI cB cR ad (pR w f9)) H → va_D (AA ad s.heap.size) (NC cI cB cR ad (pR w f9)) → va_S (AA ad s.heap.size) s.heap H locs → lv_has ls 15 [(14, .int (nI (ml))), (13, .int (nI (mx))), (12, .int (nI (γ))), (11, .int (nI (β))), (10, .int (nI (rt))), (9, .int (nI (up))), (8, .int (nI (hf))), (0, .ref (ad 2)), (1, .int (nI (r0))), (2, .int (nI (a0))), (3, .int (nI (an))), (4, .int (nI (b0))), (5, .int (nI (bn))), (6, .int (nI (fr))), (7, .int (nI (h9)))] → W p l e (headSpec (q_Be_multiplyThrice :: wA) { frames := 2 * h9 + 4, cells := 0, slots := 0, locals := 80 * h9 + 160 }).room s m ([.ref (ad 2), .int (nI (r0)), .int (nI (a0)), .int (nI (an)), .int (nI (b0)), .int (nI (bn)), .int (nI (fr)), .int (nI (h9))] : List Value).toArray below meth c H locs 0 0 (MQ below (va_Qv (fun w1 : St => ∃ f : Nat → Int32, w1 = pR w f ∧ so2 f (sR w) r0 (an + bn) fr (28672 - fr) ∧ vN f r0 (an + bn) = vN (sR w) a0 an * vN (sR w) b0 bn) (BW D cI cB cR ad) (AA ad s.heap.size)) ([.ref (ad 2), .int (nI (r0)), .int (nI (a0)), .int (nI (an)), .int (nI (b0)), .int (nI (bn)), .int (nI (fr)), .int (nI (h9))] : List Value).toArray s 0 0 (AA ad s.heap.size)) (F0 m 240 ls []) := by
      intro f9 H locs ls hs9 v9 hP hD hS hl
      refine lv_aload_n hx hb d_Be_multiplyThrice_240 rfl (lv_at hl 7 rfl) ?_
      refine lv_iload_n hx hb d_Be_multiplyThrice_241 rfl (lv_at hl 8 rfl) ?_
      refine lv_iload hx hb d_Be_multiplyThrice_242 (lv_at hl 6 rfl) ?_
      refine nw_iadd (v := nI (r0 + hf)) hx hb d_Be_multiplyThrice_244 (nI_add _ _) ?_
      refine lv_iload hx hb d_Be_multiplyThrice_245 (lv_at hl 6 rfl) ?_
      refine lv_iload hx hb d_Be_multiplyThrice_247 (lv_at hl 5 rfl) ?_
      refine nw_iadd (v := nI (hf + up)) hx hb d_Be_multiplyThrice_249 (nI_add _ _) ?_
      refine lv_iload hx hb d_Be_multiplyThrice_250 (lv_at hl 1 rfl) ?_
      refine lv_iload hx hb d_Be_multiplyThrice_252 (lv_at hl 0 rfl) ?_
      refine lv_iload hx hb d_Be_multiplyThrice_254 (lv_at hl 6 rfl) ?_
      refine lv_iload hx hb d_Be_multiplyThrice_256 (lv_at hl 5 rfl) ?_
      refine nw_iadd (v := nI (hf + up)) hx hb d_Be_multiplyThrice_258 (nI_add _ _) ?_
      refine nw_min hx hb (hml.trans hl.1.symm) hts hown lm_Be_72 (by simp only [headSpec]; omega) (Nat.le_trans (Nat.le_of_ble_eq_true rfl : _ ≤ 120) (by simp only [headSpec]; omega)) (Nat.zero_le _) (Nat.zero_le _) (nI_min (by omega) (by omega)) d_Be_multiplyThrice_259 ?_
      have z9 : ∀ {p n : Nat}, p + n ≤ mx → vN f9 p n = vN f5 p n := fun h => ((hs9.vN (by omega)).trans (hs8.vN (by omega))).trans (z7 h)
      have v9m : vN f9 mx (min ml (hf + up)) = vN (sR w) a0 hf * vN (sR w) (b0 + hf) (bn - hf) + vN (sR w) (a0 + hf) (an - hf) * vN (sR w) b0 hf := by
        have k3 := kar_mx (g := sR w) (a := a0) (b := b0) (an := an) (bn := bn) (hf := hf) (by omega) (by omega)
        rw [show an + bn - hf = hf + up by omega] at k3
        refine vN_low (by omega) v9 ?_
        rcases Nat.le_total ml (hf + up) with q | q
        · rw [Nat.min_eq_left q]; exact kk2
        · rw [Nat.min_eq_right q]; exact k3
      refine wV_i (As := [.int (nI (r0 + hf)), .int (nI (hf + up)), .int (nI (mx)), .int (nI (min ml (hf + up)))]) (rest := []) (n := 4) ⟨hx, hb, hml, hown, hts⟩ (c_Be_addInto l (pR w f9) _ (t0 := r0 + hf) (tc := hf + up) (s0 := mx) (cnt := min ml (hf + up)) (by omega) (by omega) (by omega) (by omega)) (cwV0 4 hts lm_Be_105 im_Be_addInto se_Be_addInto in_Be kq_Be_addInto rfl rfl rfl (by decide +kernel) ⟨by simp only [headSpec]; omega, by simp only [headSpec]; omega⟩) (recvB hKW.1 hP) hKW hP hD hS rfl hl.1 rfl (Nat.le_of_ble_eq_true rfl) d_Be_multiplyThrice_262 ⟨Nat.zero_le _, Nat.zero_le _⟩ (fun r w1 H locs hp hP hD hS => ?_)
      obtain ⟨f10, cy, ew, er, hcy, hs10, hv10⟩ := hp
      rw [ew] at hP hD
      subst er
      have hs10 : so f10 f9 (r0 + hf) (hf + up) := hs10
      have hv10 : vN f10 (r0 + hf) (hf + up) + cy * 4294967296 ^ (hf + up) = vN f9 (r0 + hf) (hf + up) + vN f9 mx (min ml (hf + up)) := hv10
      rw [v9m] at hv10
      refine lv_pop hx hb d_Be_multiplyThrice_265 rfl ?_
      exact W.vret hx hb hr (fun t ht hW => ⟨⟨pR w f10, rfl, ⟨f10, rfl, fun q p1 p2 => by rw [hs10 q (by omega), hs9 q (by omega), hs8 q (by omega), hs7 q (by omega), hs5 q (by omega) (by omega), hs4 q (by omega) (by omega), hs3 q (by omega) (by omega), hs12 q (by omega)], kar_end (by omega) (by omega) hup ((z9 (by omega)).trans v0) ((z9 (by omega)).trans v2) hs10 hv10⟩, BW_of ht hP⟩, hS.F ht⟩) hS.2.2 d_Be_multiplyThrice_266
    have z8 : vN f8 fr (2 * hf) = vN f2 r0 hf * vN f2 rt hf := ((hs8.vN (by omega)).trans (z7 (by omega))).trans v1
    refine lv_icmp_ne (tgt := 225) hx hb d_Be_multiplyThrice_204 (by decide) (fun c204 => ?_) (fun c204 => ?_)
    · skip
      have c204 : ¬ (β = γ) := fun h => c204 ((nI_eq (by omega) (by omega)).mpr h)
      refine lv_aload_n hx hb d_Be_multiplyThrice_225 rfl (lv_at hl 7 rfl) ?_
      refine lv_iload hx hb d_Be_multiplyThrice_226 (lv_at hl 1 rfl) ?_
      refine lv_iload hx hb d_Be_multiplyThrice_228 (lv_at hl 0 rfl) ?_
      refine lv_iload hx hb d_Be_multiplyThrice_230 (lv_at hl 13 rfl) ?_
      refine lv_iconst (v := nI (2)) hx hb d_Be_multiplyThrice_232 (by decide) ?_
      refine lv_iload hx hb d_Be_multiplyThrice_233 (lv_at hl 6 rfl) ?_
      refine nw_imul (v := nI (2 * hf)) hx hb d_Be_multiplyThrice_235 (pk_mul _ _) ?_
      refine wV_i (As := [.int (nI (mx)), .int (nI (ml)), .int (nI (fr)), .int (nI (2 * hf))]) (rest := []) (n := 4) ⟨hx, hb, hml, hown, hts⟩ (c_Be_addInto l (pR w f8) _ (t0 := mx) (tc := ml) (s0 := fr) (cnt := 2 * hf) (by omega) (by omega) (by omega) (by omega)) (cwV0 4 hts lm_Be_105 im_Be_addInto se_Be_addInto in_Be kq_Be_addInto rfl rfl rfl (by decide +kernel) ⟨by simp only [headSpec]; omega, by simp only [headSpec]; omega⟩) (recvB hKW.1 hP) hKW hP hD hS rfl hl.1 rfl (Nat.le_of_ble_eq_true rfl) d_Be_multiplyThrice_236 ⟨Nat.zero_le _, Nat.zero_le _⟩ (fun r w1 H locs hp hP hD hS => ?_)
      obtain ⟨f9, cy2, ew, er, hcy2, hs9, hv9⟩ := hp
      rw [ew] at hP hD
      subst er
      have hv9 : vN f9 mx ml + cy2 * 4294967296 ^ ml = vN f8 mx ml + vN f8 fr (2 * hf) := hv9
      rw [v8, z8, kar_diff c204 hg1 hg2] at hv9
      refine lv_pop hx hb d_Be_multiplyThrice_239 rfl ?_
      exact rest2 f9 H locs ls hs9 (no_cy hv9 kk2) hP hD hS hl
    · skip
      have c204 : β = γ := (nI_eq (by omega) (by omega)).mp c204
      refine lv_aload_n hx hb d_Be_multiplyThrice_207 rfl (lv_at hl 7 rfl) ?_
      refine lv_iload hx hb d_Be_multiplyThrice_208 (lv_at hl 1 rfl) ?_
      refine lv_iload hx hb d_Be_multiplyThrice_210 (lv_at hl 0 rfl) ?_
      refine lv_iload hx hb d_Be_multiplyThrice_212 (lv_at hl 13 rfl) ?_
      refine lv_iconst (v := nI (2)) hx hb d_Be_multiplyThrice_214 (by decide) ?_
      refine lv_iload hx hb d_Be_multiplyThrice_215 (lv_at hl 6 rfl) ?_
      refine nw_imul (v := nI (2 * hf)) hx hb d_Be_multiplyThrice_217 (pk_mul _ _) ?_
      refine wV_i (As := [.int (nI (mx)), .int (nI (ml)), .int (nI (fr)), .int (nI (2 * hf))]) (rest := []) (n := 4) ⟨hx, hb, hml, hown, hts⟩ (c_Be_takeFrom l (pR w f8) _ (t0 := mx) (tc := ml) (s0 := fr) (cnt := 2 * hf) (by omega) (by omega) (by omega) (by omega)) (cwV0 4 hts lm_Be_113 im_Be_takeFrom se_Be_takeFrom in_Be kq_Be_takeFrom rfl rfl rfl (by decide +kernel) ⟨by simp only [headSpec]; omega, by simp only [headSpec]; omega⟩) (recvB hKW.1 hP) hKW hP hD hS rfl hl.1 rfl (Nat.le_of_ble_eq_true rfl) d_Be_multiplyThrice_218 ⟨Nat.zero_le _, Nat.zero_le _⟩ (fun r w1 H locs hp hP hD hS => ?_)
      obtain ⟨f9, o9, ew, er, ho9, hs9, hv9⟩ := hp
      rw [ew] at hP hD
      subst er
      have hv9 : vN f9 mx ml + vN f8 fr (2 * hf) = vN f8 mx ml + o9 * 4294967296 ^ ml := hv9
      rw [v8, z8] at hv9
      rw [← c204] at hg2
      refine lv_pop hx hb d_Be_multiplyThrice_221 rfl ?_
      refine lv_goto (tgt := 240) hx hb d_Be_multiplyThrice_222 (by decide) ?_
      exact rest2 f9 H locs ls hs9 (no_ow hv9 (kar_same hg1 hg2) (vN_lt _ _ _)) hP hD hS hl
  refine lv_icmp_ne (tgt := 33) hx hb d_Be_multiplyThrice_26 (by decide) (fun c26 => ?_) (fun c26 => ?_)
  · skip
    have c26 : ¬ (a0 = b0) := fun h => c26 ((nI_eq (by omega) (by omega)).mpr h)
    refine lv_iload_n hx hb d_Be_multiplyThrice_33 rfl (lv_at hl 3 rfl) ?_
    refine lv_iload hx hb d_Be_multiplyThrice_34 (lv_at hl 1 rfl) ?_
    refine nw_iadd (v := nI (r0 + hf)) hx hb d_Be_multiplyThrice_36 (nI_add _ _) ?_
    refine lv_istore (lv' := [(10, .int (nI (r0 + hf))), (9, .int (nI (up))), (8, .int (nI (hf))), (0, .ref (ad 2)), (1, .int (nI (r0))), (2, .int (nI (a0))), (3, .int (nI (an))), (4, .int (nI (b0))), (5, .int (nI (bn))), (6, .int (nI (fr))), (7, .int (nI (h9)))]) hx hb d_Be_multiplyThrice_37 hl (by decide) rfl (fun ls hl => ?_)
    exact rest (r0 + hf) ls (Or.inr rfl) hl
  · skip
    have c26 : a0 = b0 := (nI_eq (by omega) (by omega)).mp c26
    refine lv_iload_n hx hb d_Be_multiplyThrice_29 rfl (lv_at hl 3 rfl) ?_
    refine lv_goto (tgt := 37) hx hb d_Be_multiplyThrice_30 (by decide) ?_
    refine lv_istore (lv' := [(10, .int (nI (r0))), (9, .int (nI (up))), (8, .int (nI (hf))), (0, .ref (ad 2)), (1, .int (nI (r0))), (2, .int (nI (a0))), (3, .int (nI (an))), (4, .int (nI (b0))), (5, .int (nI (bn))), (6, .int (nI (fr))), (7, .int (nI (h9)))]) hx hb d_Be_multiplyThrice_37 hl (by decide) rfl (fun ls hl => ?_)
    exact rest r0 ls (Or.inl ⟨c26, rfl⟩) hl
set_option maxHeartbeats 4000000 in
set_option maxRecDepth 100000 in
/-- multiply(r, a, an, b, bn, free, halvings) -/
theorem c_Be_multiplyG (l : Launch) {D : va_G} {cI cB cR : ClassId} {ad : Nat → Nat} (w : St) (sz : Nat) {r0 a0 an b0 bn fr h9 : Nat} (hM : 1 ≤ h9 → MulAt l D cI cB cR ad (h9 - 1)) (h1a : 1 ≤ an) (h1b : 1 ≤ bn) (hab : a0 = b0 ∧ an = bn ∨ a0 + an ≤ b0 ∨ b0 + bn ≤ a0) (hfa : a0 + an ≤ fr) (hfb : b0 + bn ≤ fr) (hfr : r0 + an + bn ≤ fr) (hf9 : fr ≤ 28672) (hda : a0 + an ≤ r0 ∨ r0 + an + bn ≤ a0) (hdb : b0 + bn ≤ r0 ∨ r0 + an + bn ≤ b0) (hh9 : h9 ≤ 100) (hE : 2 * fr + 4 * max an bn + 4 * h9 + 6 ≤ 57344 ∨ 2 * fr + 3 * max an bn + 2 * min an bn + 4 * h9 + 10 ≤ 57344) : Met l y_Be_multiply (q_Be_multiply :: wA) { frames := 2 * h9 + 3, cells := 0, slots := 0, locals := 80 * h9 + 120 } (va_Pc [.ref (ad 2), .int (nI (r0)), .int (nI (a0)), .int (nI (an)), .int (nI (b0)), .int (nI (bn)), .int (nI (fr)), .int (nI (h9))] (PW D cI cB cR ad w sz)) (va_Qv (fun w1 : St => ∃ f : Nat → Int32, w1 = pR w f ∧ so2 f (sR w) r0 (an + bn) fr (28672 - fr) ∧ vN f r0 (an + bn) = vN (sR w) a0 an * vN (sR w) b0 bn) (BW D cI cB cR ad) (AA ad sz)) 0 0 (AA ad sz) := by
  refine Met.ofW (cc := b_Be_multiply) (maxL := 10) (ret := none) (by decide) rfl ?_
  intro p e s m args below meth c s₁ B hml hv
  obtain ⟨rfl, hsz, hP, hD0, hKW⟩ := hv
  have hx := B.exec
  have hb := B.bytes
  have hr := B.returns
  have hts := atoms_spec (ws := q_Be_multiply :: wA) B.pre
  have hown : s.vm.findClass R_Be = some m.cls := findClass_of_methodNamed B.named
  have hlocks := B.notSynchronized
  subst hsz
  have hD := NC_AA (sz := s.heap.size) hD0
  have hS : va_S (AA ad s.heap.size) s.heap s.heap [] := va_S.rf
  have hl := lv_entry ([.ref (ad 2), .int (nI (r0)), .int (nI (a0)), .int (nI (an)), .int (nI (b0)), .int (nI (bn)), .int (nI (fr)), .int (nI (h9))]) (n := 10) (Nat.le_of_ble_eq_true rfl)
  rw [lg_entry_eq]
  generalize (lg_sl ([.ref (ad 2), .int (nI (r0)), .int (nI (a0)), .int (nI (an)), .int (nI (b0)), .int (nI (bn)), .int (nI (fr)), .int (nI (h9))]) ++ List.replicate (10 - (lg_sl ([.ref (ad 2), .int (nI (r0)), .int (nI (a0)), .int (nI (an)), .int (nI (b0)), .int (nI (bn)), .int (nI (fr)), .int (nI (h9))])).length) Slot.unset).toArray = ls at hl ⊢
  have hl : lv_has ls 10 [(0, .ref (ad 2)), (1, .int (nI (r0))), (2, .int (nI (a0))), (3, .int (nI (an))), (4, .int (nI (b0))), (5, .int (nI (bn))), (6, .int (nI (fr))), (7, .int (nI (h9)))] := hl
  refine lv_iload_n hx hb d_Be_multiply_0 rfl (lv_at hl 3 rfl) ?_
  refine lv_iload hx hb d_Be_multiply_1 (lv_at hl 5 rfl) ?_
  refine nw_max hx hb (hml.trans hl.1.symm) hts hown lm_Be_54 (by simp only [headSpec]; omega) (Nat.le_trans (Nat.le_of_ble_eq_true rfl : _ ≤ 120) (by simp only [headSpec]; omega)) (Nat.zero_le _) (Nat.zero_le _) (nI_max (by omega) (by omega)) d_Be_multiply_3 ?_
  refine lv_iconst (v := nI (1)) hx hb d_Be_multiply_6 (by decide) ?_
  refine nw_iadd (v := nI (max an bn + 1)) hx hb d_Be_multiply_7 (nI_add _ _) ?_
  refine lv_iconst (v := nI (2)) hx hb d_Be_multiply_8 (by decide) ?_
  refine nw_idiv (v := nI ((max an bn + 1) / 2)) hx hb d_Be_multiply_9 (nI_ne0 (by omega) (by omega)) (pk_div (by omega) (by omega) (by omega)) ?_
  refine lv_istore (lv' := [(8, .int (nI ((max an bn + 1) / 2))), (0, .ref (ad 2)), (1, .int (nI (r0))), (2, .int (nI (a0))), (3, .int (nI (an))), (4, .int (nI (b0))), (5, .int (nI (bn))), (6, .int (nI (fr))), (7, .int (nI (h9)))]) hx hb d_Be_multiply_10 hl (by decide) rfl (fun ls hl => ?_)
  refine lv_iload_n hx hb d_Be_multiply_12 rfl (lv_at hl 4 rfl) ?_
  refine lv_iload hx hb d_Be_multiply_13 (lv_at hl 6 rfl) ?_
  refine nw_min hx hb (hml.trans hl.1.symm) hts hown lm_Be_72 (by simp only [headSpec]; omega) (Nat.le_trans (Nat.le_of_ble_eq_true rfl : _ ≤ 120) (by simp only [headSpec]; omega)) (Nat.zero_le _) (Nat.zero_le _) (nI_min (by omega) (by omega)) d_Be_multiply_15 ?_
  refine lv_bipush (v := nI (40)) hx hb d_Be_multiply_18 (by decide) ?_
  refine lv_icmp_lt (tgt := 28) hx hb d_Be_multiply_20 (by decide) (fun c20 => ?_) (fun c20 => ?_)
  · skip
    have c20 : min an bn < 40 := (nI_ltI (by omega) (by omega)).mp c20
    refine lv_iconst (v := nI (1)) hx hb d_Be_multiply_28 (by decide) ?_
    refine lv_goto (tgt := 33) hx hb d_Be_multiply_29 (by decide) ?_
    refine lv_istore (lv' := [(9, .int (nI (1))), (8, .int (nI ((max an bn + 1) / 2))), (0, .ref (ad 2)), (1, .int (nI (r0))), (2, .int (nI (a0))), (3, .int (nI (an))), (4, .int (nI (b0))), (5, .int (nI (bn))), (6, .int (nI (fr))), (7, .int (nI (h9)))]) hx hb d_Be_multiply_33 hl (by decide) rfl (fun ls hl => ?_)
    refine lv_iload hx hb d_Be_multiply_35 (lv_at hl 0 rfl) ?_
    refine lv_if_eq (tgt := 56) hx hb d_Be_multiply_37 (by decide) (fun c37 => ?_) (fun c37 => ?_)
    · exact absurd c37 (by decide)
    · skip
      refine lv_iload_n hx hb d_Be_multiply_40 rfl (lv_at hl 4 rfl) ?_
      refine lv_iload hx hb d_Be_multiply_41 (lv_at hl 6 rfl) ?_
      refine lv_icmp_ne (tgt := 56) hx hb d_Be_multiply_43 (by decide) (fun c43 => ?_) (fun c43 => ?_)
      · skip
        have c43 : ¬ (a0 = b0) := fun h => c43 ((nI_eq (by omega) (by omega)).mpr h)
        refine lv_iload hx hb d_Be_multiply_56 (lv_at hl 0 rfl) ?_
        refine lv_if_eq (tgt := 75) hx hb d_Be_multiply_58 (by decide) (fun c58 => ?_) (fun c58 => ?_)
        · exact absurd c58 (by decide)
        · skip
          refine lv_aload_n hx hb d_Be_multiply_61 rfl (lv_at hl 2 rfl) ?_
          refine lv_iload_n hx hb d_Be_multiply_62 rfl (lv_at hl 3 rfl) ?_
          refine lv_iload_n hx hb d_Be_multiply_63 rfl (lv_at hl 4 rfl) ?_
          refine lv_iload_n hx hb d_Be_multiply_64 rfl (lv_at hl 5 rfl) ?_
          refine lv_iload hx hb d_Be_multiply_65 (lv_at hl 6 rfl) ?_
          refine lv_iload hx hb d_Be_multiply_67 (lv_at hl 7 rfl) ?_
          refine wV_v (As := [.int (nI (r0)), .int (nI (a0)), .int (nI (an)), .int (nI (b0)), .int (nI (bn))]) (rest := []) (n := 5) ⟨hx, hb, hml, hown, hts⟩ (c_Be_multiplyPlain l w _ (r0 := r0) (a0 := a0) (an := an) (b0 := b0) (bn := bn) (by omega) (by omega) (by omega) (by omega) (by omega)) (cwV0 5 hts lm_Be_83 im_Be_multiplyPlain se_Be_multiplyPlain in_Be kq_Be_multiplyPlain rfl rfl rfl (by decide +kernel) ⟨by simp only [headSpec]; omega, by simp only [headSpec]; omega⟩) (recvB hKW.1 hP) hKW hP hD hS rfl hl.1 rfl (Nat.le_of_ble_eq_true rfl) d_Be_multiply_69 ⟨Nat.zero_le _, Nat.zero_le _⟩ (fun w1 H locs hp hP hD hS => ?_)
          obtain ⟨f1, ew, hs1, hv1⟩ := hp
          rw [ew] at hP hD
          refine lv_goto (tgt := 145) hx hb d_Be_multiply_72 (by decide) ?_
          exact W.vret hx hb hr (fun t ht hW => ⟨⟨pR w f1, rfl, ⟨f1, rfl, hs1.l2 (Nat.le_refl _) (Nat.le_refl _), hv1⟩, BW_of ht hP⟩, hS.F ht⟩) hS.2.2 d_Be_multiply_145
      · skip
        have c43 : a0 = b0 := (nI_eq (by omega) (by omega)).mp c43
        have ebn : an = bn := by omega
        refine lv_aload_n hx hb d_Be_multiply_46 rfl (lv_at hl 2 rfl) ?_
        refine lv_iload_n hx hb d_Be_multiply_47 rfl (lv_at hl 3 rfl) ?_
        refine lv_iload_n hx hb d_Be_multiply_48 rfl (lv_at hl 4 rfl) ?_
        refine lv_iload_n hx hb d_Be_multiply_49 rfl (lv_at hl 5 rfl) ?_
        refine wV_v (As := [.int (nI (r0)), .int (nI (a0)), .int (nI (an))]) (rest := []) (n := 3) ⟨hx, hb, hml, hown, hts⟩ (c_Be_squarePlain l w _ (r0 := r0) (a0 := a0) (an := an) (by omega) (by omega) (by omega)) (cwV0 3 hts lm_Be_79 im_Be_squarePlain se_Be_squarePlain in_Be kq_Be_squarePlain rfl rfl rfl (by decide +kernel) ⟨by simp only [headSpec]; omega, by simp only [headSpec]; omega⟩) (recvB hKW.1 hP) hKW hP hD hS rfl hl.1 rfl (Nat.le_of_ble_eq_true rfl) d_Be_multiply_50 ⟨Nat.zero_le _, Nat.zero_le _⟩ (fun w1 H locs hp hP hD hS => ?_)
        obtain ⟨f1, ew, hs1, hv1⟩ := hp
        rw [ew] at hP hD
        refine lv_goto (tgt := 145) hx hb d_Be_multiply_53 (by decide) ?_
        exact W.vret hx hb hr (fun t ht hW => ⟨⟨pR w f1, rfl, ⟨f1, rfl, hs1.l2 (Nat.le_refl _) (by omega), by rw [← c43, ← ebn, ← Nat.two_mul]; exact hv1⟩, BW_of ht hP⟩, hS.F ht⟩) hS.2.2 d_Be_multiply_145
  · skip
    have c20 : ¬ (min an bn < 40) := fun h => c20 ((nI_ltI (by omega) (by omega)).mpr h)
    refine lv_iload hx hb d_Be_multiply_23 (lv_at hl 8 rfl) ?_
    refine lv_if_ne (tgt := 32) hx hb d_Be_multiply_25 (by decide) (fun c25 => ?_) (fun c25 => ?_)
    · skip
      have c25 : ¬ (h9 = 0) := fun h => c25 (by have := (nI_eq (by omega) (by omega)).mpr h; rwa [nI_0] at this)
      have hM := hM (by omega)
      refine lv_iconst (v := nI (0)) hx hb d_Be_multiply_32 (by decide) ?_
      refine lv_istore (lv' := [(9, .int (nI (0))), (8, .int (nI ((max an bn + 1) / 2))), (0, .ref (ad 2)), (1, .int (nI (r0))), (2, .int (nI (a0))), (3, .int (nI (an))), (4, .int (nI (b0))), (5, .int (nI (bn))), (6, .int (nI (fr))), (7, .int (nI (h9)))]) hx hb d_Be_multiply_33 hl (by decide) rfl (fun ls hl => ?_)
      refine lv_iload hx hb d_Be_multiply_35 (lv_at hl 0 rfl) ?_
      refine lv_if_eq (tgt := 56) hx hb d_Be_multiply_37 (by decide) (fun c37 => ?_) (fun c37 => ?_)
      · skip
        refine lv_iload hx hb d_Be_multiply_56 (lv_at hl 0 rfl) ?_
        refine lv_if_eq (tgt := 75) hx hb d_Be_multiply_58 (by decide) (fun c58 => ?_) (fun c58 => ?_)
        · skip
          refine lv_iload_n hx hb d_Be_multiply_75 rfl (lv_at hl 5 rfl) ?_
          refine lv_iload hx hb d_Be_multiply_76 (lv_at hl 1 rfl) ?_
          refine lv_icmp_gt (tgt := 101) hx hb d_Be_multiply_78 (by decide) (fun c78 => ?_) (fun c78 => ?_)
          · skip
            have c78 : (max an bn + 1) / 2 < an := (nI_ltI (by omega) (by omega)).mp c78
            refine lv_iload hx hb d_Be_multiply_101 (lv_at hl 7 rfl) ?_
            refine lv_iload hx hb d_Be_multiply_103 (lv_at hl 1 rfl) ?_
            refine lv_icmp_gt (tgt := 128) hx hb d_Be_multiply_105 (by decide) (fun c105 => ?_) (fun c105 => ?_)
            · skip
              have c105 : (max an bn + 1) / 2 < bn := (nI_ltI (by omega) (by omega)).mp c105
              refine lv_aload_n hx hb d_Be_multiply_128 rfl (lv_at hl 2 rfl) ?_
              refine lv_iload_n hx hb d_Be_multiply_129 rfl (lv_at hl 3 rfl) ?_
              refine lv_iload_n hx hb d_Be_multiply_130 rfl (lv_at hl 4 rfl) ?_
              refine lv_iload_n hx hb d_Be_multiply_131 rfl (lv_at hl 5 rfl) ?_
              refine lv_iload hx hb d_Be_multiply_132 (lv_at hl 6 rfl) ?_
              refine lv_iload hx hb d_Be_multiply_134 (lv_at hl 7 rfl) ?_
              refine lv_iload hx hb d_Be_multiply_136 (lv_at hl 8 rfl) ?_
              refine lv_iload hx hb d_Be_multiply_138 (lv_at hl 9 rfl) ?_
              refine lv_iconst (v := nI (1)) hx hb d_Be_multiply_140 (by decide) ?_
              refine nw_isub (v := nI (h9 - 1)) hx hb d_Be_multiply_141 (pk_sub (by omega)) ?_
              refine wV_v (As := [.int (nI (r0)), .int (nI (a0)), .int (nI (an)), .int (nI (b0)), .int (nI (bn)), .int (nI (fr)), .int (nI (h9 - 1))]) (rest := []) (n := 7) ⟨hx, hb, hml, hown, hts⟩ (c_Be_multiplyThrice l w _ (r0 := r0) (a0 := a0) (an := an) (b0 := b0) (bn := bn) (fr := fr) (h9 := h9 - 1) hM (by omega) (by omega) (by omega) (by omega) (by omega) (by omega) (by omega) (by omega) (by omega) (by omega) (by omega)) (cwV0 7 hts lm_Be_90 im_Be_multiplyThrice se_Be_multiplyThrice in_Be kq_Be_multiplyThrice rfl rfl rfl (by decide +kernel) ⟨by simp only [headSpec]; omega, by simp only [headSpec]; omega⟩) (recvB hKW.1 hP) hKW hP hD hS rfl hl.1 rfl (Nat.le_of_ble_eq_true rfl) d_Be_multiply_142 ⟨Nat.zero_le _, Nat.zero_le _⟩ (fun w1 H locs hp hP hD hS => ?_)
              obtain ⟨f1, ew, hs1, hv1⟩ := hp
              rw [ew] at hP hD
              exact W.vret hx hb hr (fun t ht hW => ⟨⟨pR w f1, rfl, ⟨f1, rfl, hs1, hv1⟩, BW_of ht hP⟩, hS.F ht⟩) hS.2.2 d_Be_multiply_145
            · skip
              have c105 : ¬ ((max an bn + 1) / 2 < bn) := fun h => c105 ((nI_ltI (by omega) (by omega)).mpr h)
              refine lv_aload_n hx hb d_Be_multiply_108 rfl (lv_at hl 2 rfl) ?_
              refine lv_iload_n hx hb d_Be_multiply_109 rfl (lv_at hl 3 rfl) ?_
              refine lv_iload_n hx hb d_Be_multiply_110 rfl (lv_at hl 4 rfl) ?_
              refine lv_iload_n hx hb d_Be_multiply_111 rfl (lv_at hl 5 rfl) ?_
              refine lv_iload hx hb d_Be_multiply_112 (lv_at hl 6 rfl) ?_
              refine lv_iload hx hb d_Be_multiply_114 (lv_at hl 7 rfl) ?_
              refine lv_iload hx hb d_Be_multiply_116 (lv_at hl 8 rfl) ?_
              refine lv_iload hx hb d_Be_multiply_118 (lv_at hl 9 rfl) ?_
              refine lv_iconst (v := nI (1)) hx hb d_Be_multiply_120 (by decide) ?_
              refine nw_isub (v := nI (h9 - 1)) hx hb d_Be_multiply_121 (pk_sub (by omega)) ?_
              refine wV_v (As := [.int (nI (r0)), .int (nI (a0)), .int (nI (an)), .int (nI (b0)), .int (nI (bn)), .int (nI (fr)), .int (nI (h9 - 1))]) (rest := []) (n := 7) ⟨hx, hb, hml, hown, hts⟩ (c_Be_multiplyTwice l w _ (r0 := r0) (a0 := a0) (an := an) (b0 := b0) (bn := bn) (fr := fr) (h9 := h9 - 1) hM (by omega) (by omega) (by omega) (by omega) (by omega) (by omega) (by omega) (by omega) (by omega) (by omega) (by omega) (by omega)) (cwV0 7 hts lm_Be_87 im_Be_multiplyTwice se_Be_multiplyTwice in_Be kq_Be_multiplyTwice rfl rfl rfl (by decide +kernel) ⟨by simp only [headSpec]; omega, by simp only [headSpec]; omega⟩) (recvB hKW.1 hP) hKW hP hD hS rfl hl.1 rfl (Nat.le_of_ble_eq_true rfl) d_Be_multiply_122 ⟨Nat.zero_le _, Nat.zero_le _⟩ (fun w1 H locs hp hP hD hS => ?_)
              obtain ⟨f1, ew, hs1, hv1⟩ := hp
              rw [ew] at hP hD
              refine lv_goto (tgt := 145) hx hb d_Be_multiply_125 (by decide) ?_
              exact W.vret hx hb hr (fun t ht hW => ⟨⟨pR w f1, rfl, ⟨f1, rfl, hs1, hv1⟩, BW_of ht hP⟩, hS.F ht⟩) hS.2.2 d_Be_multiply_145
          · skip
            have c78 : ¬ ((max an bn + 1) / 2 < an) := fun h => c78 ((nI_ltI (by omega) (by omega)).mpr h)
            refine lv_aload_n hx hb d_Be_multiply_81 rfl (lv_at hl 2 rfl) ?_
            refine lv_iload_n hx hb d_Be_multiply_82 rfl (lv_at hl 3 rfl) ?_
            refine lv_iload hx hb d_Be_multiply_83 (lv_at hl 6 rfl) ?_
            refine lv_iload hx hb d_Be_multiply_85 (lv_at hl 7 rfl) ?_
            refine lv_iload_n hx hb d_Be_multiply_87 rfl (lv_at hl 4 rfl) ?_
            refine lv_iload_n hx hb d_Be_multiply_88 rfl (lv_at hl 5 rfl) ?_
            refine lv_iload hx hb d_Be_multiply_89 (lv_at hl 8 rfl) ?_
            refine lv_iload hx hb d_Be_multiply_91 (lv_at hl 9 rfl) ?_
            refine lv_iconst (v := nI (1)) hx hb d_Be_multiply_93 (by decide) ?_
            refine nw_isub (v := nI (h9 - 1)) hx hb d_Be_multiply_94 (pk_sub (by omega)) ?_
            refine wV_v (As := [.int (nI (r0)), .int (nI (b0)), .int (nI (bn)), .int (nI (a0)), .int (nI (an)), .int (nI (fr)), .int (nI (h9 - 1))]) (rest := []) (n := 7) ⟨hx, hb, hml, hown, hts⟩ (c_Be_multiplyTwice l w _ (r0 := r0) (a0 := b0) (an := bn) (b0 := a0) (bn := an) (fr := fr) (h9 := h9 - 1) hM (by omega) (by omega) (by omega) (by omega) (by omega) (by omega) (by omega) (by omega) (by omega) (by omega) (by omega) (by omega)) (cwV0 7 hts lm_Be_87 im_Be_multiplyTwice se_Be_multiplyTwice in_Be kq_Be_multiplyTwice rfl rfl rfl (by decide +kernel) ⟨by simp only [headSpec]; omega, by simp only [headSpec]; omega⟩) (recvB hKW.1 hP) hKW hP hD hS rfl hl.1 rfl (Nat.le_of_ble_eq_true rfl) d_Be_multiply_95 ⟨Nat.zero_le _, Nat.zero_le _⟩ (fun w1 H locs hp hP hD hS => ?_)
            obtain ⟨f1, ew, hs1, hv1⟩ := hp
            rw [ew] at hP hD
            refine lv_goto (tgt := 145) hx hb d_Be_multiply_98 (by decide) ?_
            exact W.vret hx hb hr (fun t ht hW => ⟨⟨pR w f1, rfl, ⟨f1, rfl, fun q e1 e2 => hs1 q (by omega) e2, by rw [Nat.add_comm an bn, Nat.mul_comm]; exact hv1⟩, BW_of ht hP⟩, hS.F ht⟩) hS.2.2 d_Be_multiply_145
        · exact absurd nI_0 c58
      · exact absurd nI_0 c37
    · skip
      have c25 : h9 = 0 := (nI_eq (by omega) (by omega)).mp (by rw [nI_0]; exact c25)
      refine lv_iconst (v := nI (1)) hx hb d_Be_multiply_28 (by decide) ?_
      refine lv_goto (tgt := 33) hx hb d_Be_multiply_29 (by decide) ?_
      refine lv_istore (lv' := [(9, .int (nI (1))), (8, .int (nI ((max an bn + 1) / 2))), (0, .ref (ad 2)), (1, .int (nI (r0))), (2, .int (nI (a0))), (3, .int (nI (an))), (4, .int (nI (b0))), (5, .int (nI (bn))), (6, .int (nI (fr))), (7, .int (nI (h9)))]) hx hb d_Be_multiply_33 hl (by decide) rfl (fun ls hl => ?_)
      refine lv_iload hx hb d_Be_multiply_35 (lv_at hl 0 rfl) ?_
      refine lv_if_eq (tgt := 56) hx hb d_Be_multiply_37 (by decide) (fun c37 => ?_) (fun c37 => ?_)
      · exact absurd c37 (by decide)
      · skip
        refine lv_iload_n hx hb d_Be_multiply_40 rfl (lv_at hl 4 rfl) ?_
        refine lv_iload hx hb d_Be_multiply_41 (lv_at hl 6 rfl) ?_
        refine lv_icmp_ne (tgt := 56) hx hb d_Be_multiply_43 (by decide) (fun c43 => ?_) (fun c43 => ?_)
        · skip
          have c43 : ¬ (a0 = b0) := fun h => c43 ((nI_eq (by omega) (by omega)).mpr h)
          refine lv_iload hx hb d_Be_multiply_56 (lv_at hl 0 rfl) ?_
          refine lv_if_eq (tgt := 75) hx hb d_Be_multiply_58 (by decide) (fun c58 => ?_) (fun c58 => ?_)
          · exact absurd c58 (by decide)
          · skip
            refine lv_aload_n hx hb d_Be_multiply_61 rfl (lv_at hl 2 rfl) ?_
            refine lv_iload_n hx hb d_Be_multiply_62 rfl (lv_at hl 3 rfl) ?_
            refine lv_iload_n hx hb d_Be_multiply_63 rfl (lv_at hl 4 rfl) ?_
            refine lv_iload_n hx hb d_Be_multiply_64 rfl (lv_at hl 5 rfl) ?_
            refine lv_iload hx hb d_Be_multiply_65 (lv_at hl 6 rfl) ?_
            refine lv_iload hx hb d_Be_multiply_67 (lv_at hl 7 rfl) ?_
            refine wV_v (As := [.int (nI (r0)), .int (nI (a0)), .int (nI (an)), .int (nI (b0)), .int (nI (bn))]) (rest := []) (n := 5) ⟨hx, hb, hml, hown, hts⟩ (c_Be_multiplyPlain l w _ (r0 := r0) (a0 := a0) (an := an) (b0 := b0) (bn := bn) (by omega) (by omega) (by omega) (by omega) (by omega)) (cwV0 5 hts lm_Be_83 im_Be_multiplyPlain se_Be_multiplyPlain in_Be kq_Be_multiplyPlain rfl rfl rfl (by decide +kernel) ⟨by simp only [headSpec]; omega, by simp only [headSpec]; omega⟩) (recvB hKW.1 hP) hKW hP hD hS rfl hl.1 rfl (Nat.le_of_ble_eq_true rfl) d_Be_multiply_69 ⟨Nat.zero_le _, Nat.zero_le _⟩ (fun w1 H locs hp hP hD hS => ?_)
            obtain ⟨f1, ew, hs1, hv1⟩ := hp
            rw [ew] at hP hD
            refine lv_goto (tgt := 145) hx hb d_Be_multiply_72 (by decide) ?_
            exact W.vret hx hb hr (fun t ht hW => ⟨⟨pR w f1, rfl, ⟨f1, rfl, hs1.l2 (Nat.le_refl _) (Nat.le_refl _), hv1⟩, BW_of ht hP⟩, hS.F ht⟩) hS.2.2 d_Be_multiply_145
        · skip
          have c43 : a0 = b0 := (nI_eq (by omega) (by omega)).mp c43
          have ebn : an = bn := by omega
          refine lv_aload_n hx hb d_Be_multiply_46 rfl (lv_at hl 2 rfl) ?_
          refine lv_iload_n hx hb d_Be_multiply_47 rfl (lv_at hl 3 rfl) ?_
          refine lv_iload_n hx hb d_Be_multiply_48 rfl (lv_at hl 4 rfl) ?_
          refine lv_iload_n hx hb d_Be_multiply_49 rfl (lv_at hl 5 rfl) ?_
          refine wV_v (As := [.int (nI (r0)), .int (nI (a0)), .int (nI (an))]) (rest := []) (n := 3) ⟨hx, hb, hml, hown, hts⟩ (c_Be_squarePlain l w _ (r0 := r0) (a0 := a0) (an := an) (by omega) (by omega) (by omega)) (cwV0 3 hts lm_Be_79 im_Be_squarePlain se_Be_squarePlain in_Be kq_Be_squarePlain rfl rfl rfl (by decide +kernel) ⟨by simp only [headSpec]; omega, by simp only [headSpec]; omega⟩) (recvB hKW.1 hP) hKW hP hD hS rfl hl.1 rfl (Nat.le_of_ble_eq_true rfl) d_Be_multiply_50 ⟨Nat.zero_le _, Nat.zero_le _⟩ (fun w1 H locs hp hP hD hS => ?_)
          obtain ⟨f1, ew, hs1, hv1⟩ := hp
          rw [ew] at hP hD
          refine lv_goto (tgt := 145) hx hb d_Be_multiply_53 (by decide) ?_
          exact W.vret hx hb hr (fun t ht hW => ⟨⟨pR w f1, rfl, ⟨f1, rfl, hs1.l2 (Nat.le_refl _) (by omega), by rw [← c43, ← ebn, ← Nat.two_mul]; exact hv1⟩, BW_of ht hP⟩, hS.F ht⟩) hS.2.2 d_Be_multiply_145
theorem mulAll (l : Launch) {D : va_G} {cI cB cR : ClassId} {ad : Nat → Nat} : ∀ h9, h9 ≤ 100 → MulAt l D cI cB cR ad h9 := by
  intro h9
  induction h9 with
  | zero => exact fun _ w sz _ _ _ _ _ _ h1 h2 h3 h4 h5 h6 h7 h8 ha hb => c_Be_multiplyG l w sz (fun h => absurd h (by omega)) h1 h2 h3 h4 h5 h6 h7 h8 ha (by omega) hb
  | succ h9 ih => exact fun hh w sz _ _ _ _ _ _ h1 h2 h3 h4 h5 h6 h7 h8 ha hb => c_Be_multiplyG l w sz (fun _ => ih (by omega)) h1 h2 h3 h4 h5 h6 h7 h8 ha hh hb

/-! THE BENCH: multiplyPlain, squarePlain (rows laid by wip/whole/gen/c_be5.py) -/
set_option maxHeartbeats 4000000 in
set_option maxRecDepth 100000 in
/-- multiplyPlain(r, a, an, b, bn) -/
theorem c_Be_multiplyPlain (l : Launch) {D : va_G} {cI cB cR : ClassId} {ad : Nat → Nat} (w : St) (sz : Nat) {r0 a0 an b0 bn : Nat} (h1 : r0 + an + bn ≤ 28672) (h2 : a0 + an ≤ 28672) (h3 : b0 + bn ≤ 28672) (hda : a0 + an ≤ r0 ∨ r0 + an + bn ≤ a0) (hdb : b0 + bn ≤ r0 ∨ r0 + an + bn ≤ b0) : Met l y_Be_multiplyPlain (q_Be_multiplyPlain :: wA) { frames := 2, cells := 0, slots := 0, locals := 60 } (va_Pc [.ref (ad 2), .int (nI (r0)), .int (nI (a0)), .int (nI (an)), .int (nI (b0)), .int (nI (bn))] (PW D cI cB cR ad w sz)) (va_Qv (fun w1 : St => ∃ f : Nat → Int32, w1 = pR w f ∧ so f (sR w) r0 (an + bn) ∧ vN f r0 (an + bn) = vN (sR w) a0 an * vN (sR w) b0 bn) (BW D cI cB cR ad) (AA ad sz)) 0 0 (AA ad sz) := by
  refine Met.ofW (cc := b_Be_multiplyPlain) (maxL := 7) (ret := none) (by decide) rfl ?_
  intro p e s m args below meth c s₁ B hml hv
  obtain ⟨rfl, hsz, hP, hD0, hKW⟩ := hv
  have hx := B.exec
  have hb := B.bytes
  have hr := B.returns
  have hts := atoms_spec (ws := q_Be_multiplyPlain :: wA) B.pre
  have hown : s.vm.findClass R_Be = some m.cls := findClass_of_methodNamed B.named
  have hlocks := B.notSynchronized
  subst hsz
  have hD := NC_AA (sz := s.heap.size) hD0
  have hS : va_S (AA ad s.heap.size) s.heap s.heap [] := va_S.rf
  have hl := lv_entry ([.ref (ad 2), .int (nI (r0)), .int (nI (a0)), .int (nI (an)), .int (nI (b0)), .int (nI (bn))]) (n := 7) (Nat.le_of_ble_eq_true rfl)
  rw [lg_entry_eq]
  generalize (lg_sl ([.ref (ad 2), .int (nI (r0)), .int (nI (a0)), .int (nI (an)), .int (nI (b0)), .int (nI (bn))]) ++ List.replicate (7 - (lg_sl ([.ref (ad 2), .int (nI (r0)), .int (nI (a0)), .int (nI (an)), .int (nI (b0)), .int (nI (bn))])).length) Slot.unset).toArray = ls at hl ⊢
  have hl : lv_has ls 7 [(0, .ref (ad 2)), (1, .int (nI (r0))), (2, .int (nI (a0))), (3, .int (nI (an))), (4, .int (nI (b0))), (5, .int (nI (bn)))] := hl
  refine lv_aload_n hx hb d_Be_multiplyPlain_0 rfl (lv_at hl 0 rfl) ?_
  refine nw_gR hx hb hts hown hKW.1 hP lf_Be_11 d_Be_multiplyPlain_1 ?_
  refine lv_iload_n hx hb d_Be_multiplyPlain_4 rfl (lv_at hl 1 rfl) ?_
  refine lv_iload_n hx hb d_Be_multiplyPlain_5 rfl (lv_at hl 1 rfl) ?_
  refine lv_iload_n hx hb d_Be_multiplyPlain_6 rfl (lv_at hl 3 rfl) ?_
  refine nw_iadd (v := nI (r0 + an)) hx hb d_Be_multiplyPlain_7 (nI_add _ _) ?_
  refine lv_iconst (v := nI (0)) hx hb d_Be_multiplyPlain_8 (by decide) ?_
  refine wS_v (As := [.ref (ad 3), .int (nI (r0)), .int (nI (r0 + an)), .int (nI (0))]) (rest := []) (n := 4) ⟨hx, hb, hml, hown, hts⟩ (c_Ja_fillR l w _ (a := r0) (b := r0 + an) (by omega) (by omega) (nI 0)) (cwS0 4 hts lm_Be_93 st_Ja_fill in_Ja kq_Ja_fill rfl rfl rfl (by decide +kernel) ⟨Nat.le_of_ble_eq_true rfl, Nat.le_of_ble_eq_true rfl⟩) hKW hP hD hS rfl hl.1 rfl (Nat.le_of_ble_eq_true rfl) d_Be_multiplyPlain_9 ⟨Nat.zero_le _, Nat.zero_le _⟩ (fun w1 H locs hp hP hD hS => ?_)
  rw [hp] at hP hD
  refine lv_iconst (v := nI (0)) hx hb d_Be_multiplyPlain_12 (by decide) ?_
  refine lv_istore (lv' := [(6, .int (nI (0))), (0, .ref (ad 2)), (1, .int (nI (r0))), (2, .int (nI (a0))), (3, .int (nI (an))), (4, .int (nI (b0))), (5, .int (nI (bn)))]) hx hb d_Be_multiplyPlain_13 hl (by decide) rfl (fun ls hl => ?_)
  have loop : ∀ (n j : Nat) (f : Nat → Int32) (H : Heap) (locs : List Loc) (ls : Array Slot), j + n = bn → vN f r0 (an + j) = vN (sR w) a0 an * vN (sR w) b0 j → so f (sR w) r0 (an + j) → va_P D clA (NC cI cB cR ad (pR w f)) H → va_D (AA ad s.heap.size) (NC cI cB cR ad (pR w f)) → va_S (AA ad s.heap.size) s.heap H locs → lv_has ls 7 [(6, .int (nI (j))), (0, .ref (ad 2)), (1, .int (nI (r0))), (2, .int (nI (a0))), (3, .int (nI (an))), (4, .int (nI (b0))), (5, .int (nI (bn)))] → W p l e (headSpec (q_Be_multiplyPlain :: wA) { frames := 2, cells := 0, slots := 0, locals := 60 }).room s m ([.ref (ad 2), .int (nI (r0)), .int (nI (a0)), .int (nI (an)), .int (nI (b0)), .int (nI (bn))] : List Value).toArray below meth c H locs 0 0 (MQ below (va_Qv (fun w1 : St => ∃ f : Nat → Int32, w1 = pR w f ∧ so f (sR w) r0 (an + bn) ∧ vN f r0 (an + bn) = vN (sR w) a0 an * vN (sR w) b0 bn) (BW D cI cB cR ad) (AA ad s.heap.size)) ([.ref (ad 2), .int (nI (r0)), .int (nI (a0)), .int (nI (an)), .int (nI (b0)), .int (nI (bn))] : List Value).toArray s 0 0 (AA ad s.heap.size)) (F0 m 15 ls []) := by
    intro n
    induction n with
    | zero =>
      intro j f H locs ls hj hinv hso hP hD hS hl
      refine lv_iload hx hb d_Be_multiplyPlain_15 (lv_at hl 0 rfl) ?_
      refine lv_iload hx hb d_Be_multiplyPlain_17 (lv_at hl 6 rfl) ?_
      refine lv_icmp_ge (tgt := 64) hx hb d_Be_multiplyPlain_19 (by decide) (fun c19 => ?_) (fun c19 => ?_)
      · skip
        have c19 : bn ≤ j := (nI_leI (by omega) (by omega)).mp c19
        have ej : bn = j := by omega
        subst ej
        exact W.vret hx hb hr (fun t ht hW => ⟨⟨pR w f, rfl, ⟨f, rfl, hso, hinv⟩, BW_of ht hP⟩, hS.F ht⟩) hS.2.2 d_Be_multiplyPlain_64
      · exact absurd (nI_le (by omega) (by omega)) c19
    | succ n ih =>
      intro j f H locs ls hj hinv hso hP hD hS hl
      refine lv_iload hx hb d_Be_multiplyPlain_15 (lv_at hl 0 rfl) ?_
      refine lv_iload hx hb d_Be_multiplyPlain_17 (lv_at hl 6 rfl) ?_
      refine lv_icmp_ge (tgt := 64) hx hb d_Be_multiplyPlain_19 (by decide) (fun c19 => ?_) (fun c19 => ?_)
      · exact absurd c19 (nI_ge (by omega) (by omega))
      · skip
        refine lv_aload_n hx hb d_Be_multiplyPlain_22 rfl (lv_at hl 1 rfl) ?_
        refine nw_gR hx hb hts hown hKW.1 hP lf_Be_11 d_Be_multiplyPlain_23 ?_
        refine lv_iload_n hx hb d_Be_multiplyPlain_26 rfl (lv_at hl 2 rfl) ?_
        refine lv_iload_n hx hb d_Be_multiplyPlain_27 rfl (lv_at hl 4 rfl) ?_
        refine nw_iadd (v := nI (r0 + an)) hx hb d_Be_multiplyPlain_28 (nI_add _ _) ?_
        refine lv_iload hx hb d_Be_multiplyPlain_29 (lv_at hl 0 rfl) ?_
        refine nw_iadd (v := nI (r0 + an + j)) hx hb d_Be_multiplyPlain_31 (nI_add _ _) ?_
        refine lv_aload_n hx hb d_Be_multiplyPlain_32 rfl (lv_at hl 1 rfl) ?_
        refine lv_iload_n hx hb d_Be_multiplyPlain_33 rfl (lv_at hl 2 rfl) ?_
        refine lv_iload hx hb d_Be_multiplyPlain_34 (lv_at hl 0 rfl) ?_
        refine nw_iadd (v := nI (r0 + j)) hx hb d_Be_multiplyPlain_36 (nI_add _ _) ?_
        refine lv_iload_n hx hb d_Be_multiplyPlain_37 rfl (lv_at hl 3 rfl) ?_
        refine lv_iload_n hx hb d_Be_multiplyPlain_38 rfl (lv_at hl 4 rfl) ?_
        refine lv_aload_n hx hb d_Be_multiplyPlain_39 rfl (lv_at hl 1 rfl) ?_
        refine nw_gR hx hb hts hown hKW.1 hP lf_Be_11 d_Be_multiplyPlain_40 ?_
        refine lv_iload hx hb d_Be_multiplyPlain_43 (lv_at hl 5 rfl) ?_
        refine lv_iload hx hb d_Be_multiplyPlain_45 (lv_at hl 0 rfl) ?_
        refine nw_iadd (v := nI (b0 + j)) hx hb d_Be_multiplyPlain_47 (nI_add _ _) ?_
        refine nw_lR hx hb hKW.1 hP (j := b0 + j) (by omega) (x := sR w (b0 + j)) (hso _ (by omega)) d_Be_multiplyPlain_48 ?_
        refine lv_i2l (v := (sR w (b0 + j)).toInt64) hx hb d_Be_multiplyPlain_49 rfl ?_
        refine lv_ldc2 (v := 4294967295) hx hb hown (hA_ hts ll_Be_99) d_Be_multiplyPlain_50 ?_
        refine nw_land (v := lN (wN ((sR w (b0 + j))))) hx hb d_Be_multiplyPlain_53 (lw_low _) ?_
        refine wV_i (As := [.int (nI (r0 + j)), .int (nI (a0)), .int (nI (an)), .long (lN (wN ((sR w (b0 + j)))))]) (rest := [.int (nI (r0 + an + j)), .ref (ad 3)]) (n := 4) ⟨hx, hb, hml, hown, hts⟩ (c_Be_addProduct l (pR w f) _ (t0 := r0 + j) (s0 := a0) (cnt := an) (φ := wN (sR w (b0 + j))) (by omega) (by omega) (by omega) (wN_lt _)) (cwV0 4 hts lm_Be_101 im_Be_addProduct se_Be_addProduct in_Be kq_Be_addProduct rfl rfl rfl (by decide +kernel) ⟨Nat.le_of_ble_eq_true rfl, Nat.le_of_ble_eq_true rfl⟩) (recvB hKW.1 hP) hKW hP hD hS rfl hl.1 rfl (Nat.le_of_ble_eq_true rfl) d_Be_multiplyPlain_54 ⟨Nat.zero_le _, Nat.zero_le _⟩ (fun r w1 H locs hp hP hD hS => ?_)
        obtain ⟨f1, cy, ew, er, hcy, hs1, hv1⟩ := hp
        have hs1 : so f1 f (r0 + j) an := hs1
        have hv1 : vN f1 (r0 + j) an + cy * 4294967296 ^ an = vN f (r0 + j) an + wN (sR w (b0 + j)) * vN f a0 an := hv1
        rw [hso.vN (b := a0) (m := an) (by omega)] at hv1
        rw [ew] at hP hD
        subst er
        refine nw_sR hx hb hKW.1 hP hD hS (j := r0 + an + j) (by omega) d_Be_multiplyPlain_57 (fun H locs hP hD hS => ?_)
        refine lv_iinc (v := nI (j + 1)) (lv' := [(6, .int (nI (j + 1))), (0, .ref (ad 2)), (1, .int (nI (r0))), (2, .int (nI (a0))), (3, .int (nI (an))), (4, .int (nI (b0))), (5, .int (nI (bn)))]) hx hb d_Be_multiplyPlain_58 hl (k := 0) rfl (nI_add _ 1) (by decide) rfl (fun ls hl => ?_)
        refine lv_goto (tgt := 15) hx hb d_Be_multiplyPlain_61 (by decide) ?_
        exact ih (j + 1) (upd f1 (r0 + an + j) (nI cy)) H locs ls (by omega) (mp_step hinv hs1 hcy hv1) (so_mp hso hs1) hP hD hS (lv_sub hl [0, 1, 2, 3, 4, 5, 6] rfl)
  exact loop bn 0 (fl (sR w) r0 (r0 + an) (nI 0)) _ _ ls (by omega) (by rw [Nat.add_zero, fl_val an rfl]; rfl) (so_fl rfl) hP hD hS (lv_sub hl [0, 1, 2, 3, 4, 5, 6] rfl)
set_option maxHeartbeats 4000000 in
set_option maxRecDepth 100000 in
/-- squarePlain(r, a, an) -/
theorem c_Be_squarePlain (l : Launch) {D : va_G} {cI cB cR : ClassId} {ad : Nat → Nat} (w : St) (sz : Nat) {r0 a0 an : Nat} (h1 : r0 + 2 * an ≤ 28672) (h2 : a0 + an ≤ 28672) (hda : a0 + an ≤ r0 ∨ r0 + 2 * an ≤ a0) : Met l y_Be_squarePlain (q_Be_squarePlain :: wA) { frames := 2, cells := 0, slots := 0, locals := 60 } (va_Pc [.ref (ad 2), .int (nI (r0)), .int (nI (a0)), .int (nI (an))] (PW D cI cB cR ad w sz)) (va_Qv (fun w1 : St => ∃ f : Nat → Int32, w1 = pR w f ∧ so f (sR w) r0 (2 * an) ∧ vN f r0 (2 * an) = vN (sR w) a0 an * vN (sR w) a0 an) (BW D cI cB cR ad) (AA ad sz)) 0 0 (AA ad sz) := by
  refine Met.ofW (cc := b_Be_squarePlain) (maxL := 12) (ret := none) (by decide) rfl ?_
  intro p e s m args below meth c s₁ B hml hv
  obtain ⟨rfl, hsz, hP, hD0, hKW⟩ := hv
  have hx := B.exec
  have hb := B.bytes
  have hr := B.returns
  have hts := atoms_spec (ws := q_Be_squarePlain :: wA) B.pre
  have hown : s.vm.findClass R_Be = some m.cls := findClass_of_methodNamed B.named
  have hlocks := B.notSynchronized
  subst hsz
  have hD := NC_AA (sz := s.heap.size) hD0
  have hS : va_S (AA ad s.heap.size) s.heap s.heap [] := va_S.rf
  have hl := lv_entry ([.ref (ad 2), .int (nI (r0)), .int (nI (a0)), .int (nI (an))]) (n := 12) (Nat.le_of_ble_eq_true rfl)
  rw [lg_entry_eq]
  generalize (lg_sl ([.ref (ad 2), .int (nI (r0)), .int (nI (a0)), .int (nI (an))]) ++ List.replicate (12 - (lg_sl ([.ref (ad 2), .int (nI (r0)), .int (nI (a0)), .int (nI (an))])).length) Slot.unset).toArray = ls at hl ⊢
  have hl : lv_has ls 12 [(0, .ref (ad 2)), (1, .int (nI (r0))), (2, .int (nI (a0))), (3, .int (nI (an)))] := hl
  refine lv_aload_n hx hb d_Be_squarePlain_0 rfl (lv_at hl 0 rfl) ?_
  refine nw_gR hx hb hts hown hKW.1 hP lf_Be_11 d_Be_squarePlain_1 ?_
  refine lv_astore (lv' := [(4, .ref (ad 3)), (0, .ref (ad 2)), (1, .int (nI (r0))), (2, .int (nI (a0))), (3, .int (nI (an)))]) hx hb d_Be_squarePlain_4 hl (by decide) rfl (fun ls hl => ?_)
  refine lv_aload hx hb d_Be_squarePlain_6 (lv_at hl 0 rfl) ?_
  refine lv_iload_n hx hb d_Be_squarePlain_8 rfl (lv_at hl 2 rfl) ?_
  refine lv_iload_n hx hb d_Be_squarePlain_9 rfl (lv_at hl 2 rfl) ?_
  refine lv_iconst (v := nI (2)) hx hb d_Be_squarePlain_10 (by decide) ?_
  refine lv_iload_n hx hb d_Be_squarePlain_11 rfl (lv_at hl 4 rfl) ?_
  refine nw_imul (v := nI (2 * an)) hx hb d_Be_squarePlain_12 (pk_mul _ _) ?_
  refine nw_iadd (v := nI (r0 + (2 * an))) hx hb d_Be_squarePlain_13 (nI_add _ _) ?_
  refine lv_iconst (v := nI (0)) hx hb d_Be_squarePlain_14 (by decide) ?_
  refine wS_v (As := [.ref (ad 3), .int (nI (r0)), .int (nI (r0 + (2 * an))), .int (nI (0))]) (rest := []) (n := 4) ⟨hx, hb, hml, hown, hts⟩ (c_Ja_fillR l w _ (a := r0) (b := r0 + 2 * an) (by omega) (by omega) (nI 0)) (cwS0 4 hts lm_Be_93 st_Ja_fill in_Ja kq_Ja_fill rfl rfl rfl (by decide +kernel) ⟨Nat.le_of_ble_eq_true rfl, Nat.le_of_ble_eq_true rfl⟩) hKW hP hD hS rfl hl.1 rfl (Nat.le_of_ble_eq_true rfl) d_Be_squarePlain_15 ⟨Nat.zero_le _, Nat.zero_le _⟩ (fun w1 H locs hp hP hD hS => ?_)
  rw [hp] at hP hD
  refine lv_iconst (v := nI (0)) hx hb d_Be_squarePlain_18 (by decide) ?_
  refine lv_istore (lv' := [(5, .int (nI (0))), (4, .ref (ad 3)), (0, .ref (ad 2)), (1, .int (nI (r0))), (2, .int (nI (a0))), (3, .int (nI (an)))]) hx hb d_Be_squarePlain_19 hl (by decide) rfl (fun ls hl => ?_)
  have loop2 : ∀ (h : Nat → Int32), so h (sR w) r0 (2 * an) → vN h r0 (2 * an) = sqT (sR w) a0 an an → ∀ (n j : Nat) (f : Nat → Int32) (cy : Nat) (H : Heap) (locs : List Loc) (ls : Array Slot), j + n = an → vN f r0 (2 * j) + cy * 4294967296 ^ (2 * j) = 2 * vN h r0 (2 * j) + sqQ (sR w) a0 j → so f h r0 (2 * j) → cy ≤ 3 → va_P D clA (NC cI cB cR ad (pR w f)) H → va_D (AA ad s.heap.size) (NC cI cB cR ad (pR w f)) → va_S (AA ad s.heap.size) s.heap H locs → lv_has ls 12 [(7, .int (nI (j))), (5, .long (lN (cy))), (4, .ref (ad 3)), (0, .ref (ad 2)), (1, .int (nI (r0))), (2, .int (nI (a0))), (3, .int (nI (an)))] → W p l e (headSpec (q_Be_squarePlain :: wA) { frames := 2, cells := 0, slots := 0, locals := 60 }).room s m ([.ref (ad 2), .int (nI (r0)), .int (nI (a0)), .int (nI (an))] : List Value).toArray below meth c H locs 0 0 (MQ below (va_Qv (fun w1 : St => ∃ f : Nat → Int32, w1 = pR w f ∧ so f (sR w) r0 (2 * an) ∧ vN f r0 (2 * an) = vN (sR w) a0 an * vN (sR w) a0 an) (BW D cI cB cR ad) (AA ad s.heap.size)) ([.ref (ad 2), .int (nI (r0)), .int (nI (a0)), .int (nI (an))] : List Value).toArray s 0 0 (AA ad s.heap.size)) (F0 m 84 ls []) := by
    intro h hsh hvh n
    induction n with
    | zero =>
      intro j f cy H locs ls hj hinv hso hc hP hD hS hl
      refine lv_iload hx hb d_Be_squarePlain_84 (lv_at hl 0 rfl) ?_
      refine lv_iload_n hx hb d_Be_squarePlain_86 rfl (lv_at hl 6 rfl) ?_
      refine lv_icmp_ge (tgt := 210) hx hb d_Be_squarePlain_87 (by decide) (fun c87 => ?_) (fun c87 => ?_)
      · skip
        have c87 : an ≤ j := (nI_leI (by omega) (by omega)).mp c87
        have ej : an = j := by omega
        subst ej
        have hall := sq_all (g := sR w) (a := a0) (an := an) an (Nat.le_refl _)
        rw [Nat.sub_self, vN_0, Nat.mul_zero, Nat.add_zero, ← hvh, ← hinv] at hall
        have hA := vN_lt (sR w) a0 an
        have hAA : vN (sR w) a0 an * vN (sR w) a0 an < 4294967296 ^ (2 * an) := by rw [Nat.two_mul, Nat.pow_add]; exact Nat.mul_lt_mul_of_lt_of_le hA (Nat.le_of_lt hA) (Nat.pow_pos (by decide))
        have hcz : cy = 0 := by
          rcases Nat.eq_zero_or_pos cy with q | q
          · exact q
          · have : 1 * 4294967296 ^ (2 * an) ≤ cy * 4294967296 ^ (2 * an) := Nat.mul_le_mul_right _ q
            omega
        rw [hcz, Nat.zero_mul, Nat.add_zero] at hall
        exact W.vret hx hb hr (fun t ht hW => ⟨⟨pR w f, rfl, ⟨f, rfl, hso.trans hsh, hall⟩, BW_of ht hP⟩, hS.F ht⟩) hS.2.2 d_Be_squarePlain_210
      · exact absurd (nI_le (by omega) (by omega)) c87
    | succ n ih =>
      intro j f cy H locs ls hj hinv hso hc hP hD hS hl
      have hm := pr_bound (wN_lt (sR w (a0 + j))) (wN_lt (sR w (a0 + j)))
      have hy0 := wN_lt (h (r0 + 2 * j))
      have hy1 := wN_lt (h (r0 + 2 * j + 1))
      refine lv_iload hx hb d_Be_squarePlain_84 (lv_at hl 0 rfl) ?_
      refine lv_iload_n hx hb d_Be_squarePlain_86 rfl (lv_at hl 6 rfl) ?_
      refine lv_icmp_ge (tgt := 210) hx hb d_Be_squarePlain_87 (by decide) (fun c87 => ?_) (fun c87 => ?_)
      · exact absurd c87 (nI_ge (by omega) (by omega))
      · skip
        refine lv_aload hx hb d_Be_squarePlain_90 (lv_at hl 2 rfl) ?_
        refine lv_iload_n hx hb d_Be_squarePlain_92 rfl (lv_at hl 5 rfl) ?_
        refine lv_iload hx hb d_Be_squarePlain_93 (lv_at hl 0 rfl) ?_
        refine nw_iadd (v := nI (a0 + j)) hx hb d_Be_squarePlain_95 (nI_add _ _) ?_
        refine nw_lR hx hb hKW.1 hP (j := a0 + j) (by omega) (x := sR w (a0 + j)) ((hso _ (by omega)).trans (hsh _ (by omega))) d_Be_squarePlain_96 ?_
        refine lv_i2l (v := (sR w (a0 + j)).toInt64) hx hb d_Be_squarePlain_97 rfl ?_
        refine lv_ldc2 (v := 4294967295) hx hb hown (hA_ hts ll_Be_99) d_Be_squarePlain_98 ?_
        refine nw_land (v := lN (wN ((sR w (a0 + j))))) hx hb d_Be_squarePlain_101 (lw_low _) ?_
        refine lv_lstore (lv' := [(8, .long (lN (wN ((sR w (a0 + j)))))), (7, .int (nI (j))), (5, .long (lN (cy))), (4, .ref (ad 3)), (0, .ref (ad 2)), (1, .int (nI (r0))), (2, .int (nI (a0))), (3, .int (nI (an)))]) hx hb d_Be_squarePlain_102 hl (by decide) rfl (fun ls hl => ?_)
        refine lv_lload hx hb d_Be_squarePlain_104 (lv_at hl 0 rfl) ?_
        refine lv_lload hx hb d_Be_squarePlain_106 (lv_at hl 0 rfl) ?_
        refine nw_lmul (v := lN ((wN ((sR w (a0 + j)))) * (wN ((sR w (a0 + j)))))) hx hb d_Be_squarePlain_108 (lN_mul _ _) ?_
        refine lv_lstore (lv' := [(10, .long (lN ((wN ((sR w (a0 + j)))) * (wN ((sR w (a0 + j))))))), (8, .long (lN (wN ((sR w (a0 + j)))))), (7, .int (nI (j))), (5, .long (lN (cy))), (4, .ref (ad 3)), (0, .ref (ad 2)), (1, .int (nI (r0))), (2, .int (nI (a0))), (3, .int (nI (an)))]) hx hb d_Be_squarePlain_109 hl (by decide) rfl (fun ls hl => ?_)
        refine lv_lload hx hb d_Be_squarePlain_111 (lv_at hl 3 rfl) ?_
        refine lv_aload hx hb d_Be_squarePlain_113 (lv_at hl 4 rfl) ?_
        refine lv_iload_n hx hb d_Be_squarePlain_115 rfl (lv_at hl 6 rfl) ?_
        refine lv_iconst (v := nI (2)) hx hb d_Be_squarePlain_116 (by decide) ?_
        refine lv_iload hx hb d_Be_squarePlain_117 (lv_at hl 2 rfl) ?_
        refine nw_imul (v := nI (2 * j)) hx hb d_Be_squarePlain_119 (pk_mul _ _) ?_
        refine nw_iadd (v := nI (r0 + (2 * j))) hx hb d_Be_squarePlain_120 (nI_add _ _) ?_
        refine nw_lR hx hb hKW.1 hP (j := r0 + (2 * j)) (by omega) (x := h (r0 + 2 * j)) (hso _ (by omega)) d_Be_squarePlain_121 ?_
        refine lv_i2l (v := (h (r0 + 2 * j)).toInt64) hx hb d_Be_squarePlain_122 rfl ?_
        refine lv_ldc2 (v := 4294967295) hx hb hown (hA_ hts ll_Be_99) d_Be_squarePlain_123 ?_
        refine nw_land (v := lN (wN ((h (r0 + 2 * j))))) hx hb d_Be_squarePlain_126 (lw_low _) ?_
        refine lv_iconst (v := nI (1)) hx hb d_Be_squarePlain_127 (by decide) ?_
        refine lv_lshl (v := lN (wN (h (r0 + 2 * j)) * 2)) hx hb d_Be_squarePlain_128 (lN_shl _ (by decide)) ?_
        refine lv_lload hx hb d_Be_squarePlain_129 (lv_at hl 0 rfl) ?_
        refine lv_ldc2 (v := 4294967295) hx hb hown (hA_ hts ll_Be_99) d_Be_squarePlain_131 ?_
        refine nw_land (v := lN (wN (sR w (a0 + j)) * wN (sR w (a0 + j)) % 4294967296)) hx hb d_Be_squarePlain_134 (lN_low (by omega)) ?_
        refine nw_ladd (v := lN (wN (h (r0 + 2 * j)) * 2 + (wN (sR w (a0 + j)) * wN (sR w (a0 + j)) % 4294967296))) hx hb d_Be_squarePlain_135 (lN_add _ _) ?_
        refine nw_ladd (v := lN (cy + (wN (h (r0 + 2 * j)) * 2 + (wN (sR w (a0 + j)) * wN (sR w (a0 + j)) % 4294967296)))) hx hb d_Be_squarePlain_136 (lN_add _ _) ?_
        refine lv_lstore (lv' := [(5, .long (lN (cy + (wN (h (r0 + 2 * j)) * 2 + (wN (sR w (a0 + j)) * wN (sR w (a0 + j)) % 4294967296))))), (10, .long (lN ((wN ((sR w (a0 + j)))) * (wN ((sR w (a0 + j))))))), (8, .long (lN (wN ((sR w (a0 + j)))))), (7, .int (nI (j))), (4, .ref (ad 3)), (0, .ref (ad 2)), (1, .int (nI (r0))), (2, .int (nI (a0))), (3, .int (nI (an)))]) hx hb d_Be_squarePlain_137 hl (by decide) rfl (fun ls hl => ?_)
        refine lv_aload hx hb d_Be_squarePlain_139 (lv_at hl 4 rfl) ?_
        refine lv_iload_n hx hb d_Be_squarePlain_141 rfl (lv_at hl 6 rfl) ?_
        refine lv_iconst (v := nI (2)) hx hb d_Be_squarePlain_142 (by decide) ?_
        refine lv_iload hx hb d_Be_squarePlain_143 (lv_at hl 3 rfl) ?_
        refine nw_imul (v := nI (2 * j)) hx hb d_Be_squarePlain_145 (pk_mul _ _) ?_
        refine nw_iadd (v := nI (r0 + (2 * j))) hx hb d_Be_squarePlain_146 (nI_add _ _) ?_
        refine lv_lload hx hb d_Be_squarePlain_147 (lv_at hl 0 rfl) ?_
        refine lv_l2i (v := nI (cy + (wN (h (r0 + 2 * j)) * 2 + (wN (sR w (a0 + j)) * wN (sR w (a0 + j)) % 4294967296)))) hx hb d_Be_squarePlain_149 (lN_i _) ?_
        refine nw_sR hx hb hKW.1 hP hD hS (j := r0 + (2 * j)) (by omega) d_Be_squarePlain_150 (fun H locs hP hD hS => ?_)
        refine lv_lload hx hb d_Be_squarePlain_151 (lv_at hl 0 rfl) ?_
        refine lv_bipush (v := nI (32)) hx hb d_Be_squarePlain_153 (by decide) ?_
        refine lv_lushr (v := lN ((cy + (wN (h (r0 + 2 * j)) * 2 + (wN (sR w (a0 + j)) * wN (sR w (a0 + j)) % 4294967296))) / 4294967296)) hx hb d_Be_squarePlain_155 (lN_shr32 (by omega)) ?_
        refine lv_aload hx hb d_Be_squarePlain_156 (lv_at hl 4 rfl) ?_
        refine lv_iload_n hx hb d_Be_squarePlain_158 rfl (lv_at hl 6 rfl) ?_
        refine lv_iconst (v := nI (2)) hx hb d_Be_squarePlain_159 (by decide) ?_
        refine lv_iload hx hb d_Be_squarePlain_160 (lv_at hl 3 rfl) ?_
        refine nw_imul (v := nI (2 * j)) hx hb d_Be_squarePlain_162 (pk_mul _ _) ?_
        refine nw_iadd (v := nI (r0 + (2 * j))) hx hb d_Be_squarePlain_163 (nI_add _ _) ?_
        refine lv_iconst (v := nI (1)) hx hb d_Be_squarePlain_164 (by decide) ?_
        refine nw_iadd (v := nI (r0 + (2 * j) + 1)) hx hb d_Be_squarePlain_165 (nI_add _ _) ?_
        refine nw_lR hx hb hKW.1 hP (j := r0 + (2 * j) + 1) (by omega) (x := h (r0 + 2 * j + 1)) ((pk_un (by omega)).trans (hso _ (by omega))) d_Be_squarePlain_166 ?_
        refine lv_i2l (v := (h (r0 + 2 * j + 1)).toInt64) hx hb d_Be_squarePlain_167 rfl ?_
        refine lv_ldc2 (v := 4294967295) hx hb hown (hA_ hts ll_Be_99) d_Be_squarePlain_168 ?_
        refine nw_land (v := lN (wN ((h (r0 + 2 * j + 1))))) hx hb d_Be_squarePlain_171 (lw_low _) ?_
        refine lv_iconst (v := nI (1)) hx hb d_Be_squarePlain_172 (by decide) ?_
        refine lv_lshl (v := lN (wN (h (r0 + 2 * j + 1)) * 2)) hx hb d_Be_squarePlain_173 (lN_shl _ (by decide)) ?_
        refine nw_ladd (v := lN ((cy + (wN (h (r0 + 2 * j)) * 2 + wN (sR w (a0 + j)) * wN (sR w (a0 + j)) % 4294967296)) / 4294967296 + wN (h (r0 + 2 * j + 1)) * 2)) hx hb d_Be_squarePlain_174 (lN_add _ _) ?_
        refine lv_lload hx hb d_Be_squarePlain_175 (lv_at hl 1 rfl) ?_
        refine lv_bipush (v := nI (32)) hx hb d_Be_squarePlain_177 (by decide) ?_
        refine lv_lushr (v := lN (wN (sR w (a0 + j)) * wN (sR w (a0 + j)) / 4294967296)) hx hb d_Be_squarePlain_179 (lN_shr32 (by omega)) ?_
        refine nw_ladd (v := lN ((cy + (wN (h (r0 + 2 * j)) * 2 + wN (sR w (a0 + j)) * wN (sR w (a0 + j)) % 4294967296)) / 4294967296 + wN (h (r0 + 2 * j + 1)) * 2 + wN (sR w (a0 + j)) * wN (sR w (a0 + j)) / 4294967296)) hx hb d_Be_squarePlain_180 (lN_add _ _) ?_
        refine lv_lstore (lv' := [(5, .long (lN ((cy + (wN (h (r0 + 2 * j)) * 2 + wN (sR w (a0 + j)) * wN (sR w (a0 + j)) % 4294967296)) / 4294967296 + wN (h (r0 + 2 * j + 1)) * 2 + wN (sR w (a0 + j)) * wN (sR w (a0 + j)) / 4294967296))), (10, .long (lN ((wN ((sR w (a0 + j)))) * (wN ((sR w (a0 + j))))))), (8, .long (lN (wN ((sR w (a0 + j)))))), (7, .int (nI (j))), (4, .ref (ad 3)), (0, .ref (ad 2)), (1, .int (nI (r0))), (2, .int (nI (a0))), (3, .int (nI (an)))]) hx hb d_Be_squarePlain_181 hl (by decide) rfl (fun ls hl => ?_)
        refine lv_aload hx hb d_Be_squarePlain_183 (lv_at hl 4 rfl) ?_
        refine lv_iload_n hx hb d_Be_squarePlain_185 rfl (lv_at hl 6 rfl) ?_
        refine lv_iconst (v := nI (2)) hx hb d_Be_squarePlain_186 (by decide) ?_
        refine lv_iload hx hb d_Be_squarePlain_187 (lv_at hl 3 rfl) ?_
        refine nw_imul (v := nI (2 * j)) hx hb d_Be_squarePlain_189 (pk_mul _ _) ?_
        refine nw_iadd (v := nI (r0 + (2 * j))) hx hb d_Be_squarePlain_190 (nI_add _ _) ?_
        refine lv_iconst (v := nI (1)) hx hb d_Be_squarePlain_191 (by decide) ?_
        refine nw_iadd (v := nI (r0 + (2 * j) + 1)) hx hb d_Be_squarePlain_192 (nI_add _ _) ?_
        refine lv_lload hx hb d_Be_squarePlain_193 (lv_at hl 0 rfl) ?_
        refine lv_l2i (v := nI ((cy + (wN (h (r0 + 2 * j)) * 2 + wN (sR w (a0 + j)) * wN (sR w (a0 + j)) % 4294967296)) / 4294967296 + wN (h (r0 + 2 * j + 1)) * 2 + wN (sR w (a0 + j)) * wN (sR w (a0 + j)) / 4294967296)) hx hb d_Be_squarePlain_195 (lN_i _) ?_
        refine nw_sR hx hb hKW.1 hP hD hS (j := r0 + (2 * j) + 1) (by omega) d_Be_squarePlain_196 (fun H locs hP hD hS => ?_)
        refine lv_lload hx hb d_Be_squarePlain_197 (lv_at hl 0 rfl) ?_
        refine lv_bipush (v := nI (32)) hx hb d_Be_squarePlain_199 (by decide) ?_
        refine lv_lushr (v := lN (((cy + (wN (h (r0 + 2 * j)) * 2 + wN (sR w (a0 + j)) * wN (sR w (a0 + j)) % 4294967296)) / 4294967296 + wN (h (r0 + 2 * j + 1)) * 2 + wN (sR w (a0 + j)) * wN (sR w (a0 + j)) / 4294967296) / 4294967296)) hx hb d_Be_squarePlain_201 (lN_shr32 (by omega)) ?_
        refine lv_lstore (lv' := [(5, .long (lN (((cy + (wN (h (r0 + 2 * j)) * 2 + wN (sR w (a0 + j)) * wN (sR w (a0 + j)) % 4294967296)) / 4294967296 + wN (h (r0 + 2 * j + 1)) * 2 + wN (sR w (a0 + j)) * wN (sR w (a0 + j)) / 4294967296) / 4294967296))), (10, .long (lN ((wN ((sR w (a0 + j)))) * (wN ((sR w (a0 + j))))))), (8, .long (lN (wN ((sR w (a0 + j)))))), (7, .int (nI (j))), (4, .ref (ad 3)), (0, .ref (ad 2)), (1, .int (nI (r0))), (2, .int (nI (a0))), (3, .int (nI (an)))]) hx hb d_Be_squarePlain_202 hl (by decide) rfl (fun ls hl => ?_)
        refine lv_iinc (v := nI (j + 1)) (lv' := [(7, .int (nI (j + 1))), (5, .long (lN (((cy + (wN (h (r0 + 2 * j)) * 2 + wN (sR w (a0 + j)) * wN (sR w (a0 + j)) % 4294967296)) / 4294967296 + wN (h (r0 + 2 * j + 1)) * 2 + wN (sR w (a0 + j)) * wN (sR w (a0 + j)) / 4294967296) / 4294967296))), (10, .long (lN ((wN ((sR w (a0 + j)))) * (wN ((sR w (a0 + j))))))), (8, .long (lN (wN ((sR w (a0 + j)))))), (4, .ref (ad 3)), (0, .ref (ad 2)), (1, .int (nI (r0))), (2, .int (nI (a0))), (3, .int (nI (an)))]) hx hb d_Be_squarePlain_204 hl (k := 3) rfl (nI_add _ 1) (by decide) rfl (fun ls hl => ?_)
        refine lv_goto (tgt := 84) hx hb d_Be_squarePlain_207 (by decide) ?_
        exact ih (j + 1) (upd (upd f (r0 + 2 * j) (nI (cy + (wN (h (r0 + 2 * j)) * 2 + wN (sR w (a0 + j)) * wN (sR w (a0 + j)) % 4294967296)))) (r0 + 2 * j + 1) (nI ((cy + (wN (h (r0 + 2 * j)) * 2 + wN (sR w (a0 + j)) * wN (sR w (a0 + j)) % 4294967296)) / 4294967296 + wN (h (r0 + 2 * j + 1)) * 2 + wN (sR w (a0 + j)) * wN (sR w (a0 + j)) / 4294967296))) (((cy + (wN (h (r0 + 2 * j)) * 2 + wN (sR w (a0 + j)) * wN (sR w (a0 + j)) % 4294967296)) / 4294967296 + wN (h (r0 + 2 * j + 1)) * 2 + wN (sR w (a0 + j)) * wN (sR w (a0 + j)) / 4294967296) / 4294967296) H locs ls (by omega) (db_step hinv (fun q hq => hso q (by omega))) (fun q hq => by rw [pk_un (by omega), pk_un (by omega)]; exact hso q (by omega)) (by omega) hP hD hS (lv_sub hl [0, 1, 4, 5, 6, 7, 8] rfl)
  have loop1 : ∀ (n j : Nat) (f : Nat → Int32) (H : Heap) (locs : List Loc) (ls : Array Slot), j + n = an → vN f r0 (an + j) = sqT (sR w) a0 an j → so f (sR w) r0 (2 * an) → va_P D clA (NC cI cB cR ad (pR w f)) H → va_D (AA ad s.heap.size) (NC cI cB cR ad (pR w f)) → va_S (AA ad s.heap.size) s.heap H locs → lv_has ls 12 [(5, .int (nI (j))), (4, .ref (ad 3)), (0, .ref (ad 2)), (1, .int (nI (r0))), (2, .int (nI (a0))), (3, .int (nI (an)))] → W p l e (headSpec (q_Be_squarePlain :: wA) { frames := 2, cells := 0, slots := 0, locals := 60 }).room s m ([.ref (ad 2), .int (nI (r0)), .int (nI (a0)), .int (nI (an))] : List Value).toArray below meth c H locs 0 0 (MQ below (va_Qv (fun w1 : St => ∃ f : Nat → Int32, w1 = pR w f ∧ so f (sR w) r0 (2 * an) ∧ vN f r0 (2 * an) = vN (sR w) a0 an * vN (sR w) a0 an) (BW D cI cB cR ad) (AA ad s.heap.size)) ([.ref (ad 2), .int (nI (r0)), .int (nI (a0)), .int (nI (an))] : List Value).toArray s 0 0 (AA ad s.heap.size)) (F0 m 21 ls []) := by
    intro n
    induction n with
    | zero =>
      intro j f H locs ls hj hinv hso hP hD hS hl
      refine lv_iload hx hb d_Be_squarePlain_21 (lv_at hl 0 rfl) ?_
      refine lv_iload_n hx hb d_Be_squarePlain_23 rfl (lv_at hl 5 rfl) ?_
      refine lv_icmp_ge (tgt := 78) hx hb d_Be_squarePlain_24 (by decide) (fun c24 => ?_) (fun c24 => ?_)
      · skip
        have c24 : an ≤ j := (nI_leI (by omega) (by omega)).mp c24
        have ej : an = j := by omega
        subst ej
        refine lv_lconst (v := lN (0)) hx hb d_Be_squarePlain_78 (by decide) ?_
        refine lv_lstore (lv' := [(5, .long (lN (0))), (4, .ref (ad 3)), (0, .ref (ad 2)), (1, .int (nI (r0))), (2, .int (nI (a0))), (3, .int (nI (an)))]) hx hb d_Be_squarePlain_79 hl (by decide) rfl (fun ls hl => ?_)
        refine lv_iconst (v := nI (0)) hx hb d_Be_squarePlain_81 (by decide) ?_
        refine lv_istore (lv' := [(7, .int (nI (0))), (5, .long (lN (0))), (4, .ref (ad 3)), (0, .ref (ad 2)), (1, .int (nI (r0))), (2, .int (nI (a0))), (3, .int (nI (an)))]) hx hb d_Be_squarePlain_82 hl (by decide) rfl (fun ls hl => ?_)
        exact loop2 f hso (by rw [Nat.two_mul]; exact hinv) an 0 f 0 H locs ls (by omega) (by show 0 + 0 * 4294967296 ^ 0 = 2 * 0 + 0; omega) (so_refl _ _ _) (by omega) hP hD hS (lv_sub hl [0, 1, 2, 3, 4, 5, 6] rfl)
      · exact absurd (nI_le (by omega) (by omega)) c24
    | succ n ih =>
      intro j f H locs ls hj hinv hso hP hD hS hl
      refine lv_iload hx hb d_Be_squarePlain_21 (lv_at hl 0 rfl) ?_
      refine lv_iload_n hx hb d_Be_squarePlain_23 rfl (lv_at hl 5 rfl) ?_
      refine lv_icmp_ge (tgt := 78) hx hb d_Be_squarePlain_24 (by decide) (fun c24 => ?_) (fun c24 => ?_)
      · exact absurd c24 (nI_ge (by omega) (by omega))
      · skip
        refine lv_aload hx hb d_Be_squarePlain_27 (lv_at hl 1 rfl) ?_
        refine lv_iload_n hx hb d_Be_squarePlain_29 rfl (lv_at hl 3 rfl) ?_
        refine lv_iload_n hx hb d_Be_squarePlain_30 rfl (lv_at hl 5 rfl) ?_
        refine nw_iadd (v := nI (r0 + an)) hx hb d_Be_squarePlain_31 (nI_add _ _) ?_
        refine lv_iload hx hb d_Be_squarePlain_32 (lv_at hl 0 rfl) ?_
        refine nw_iadd (v := nI (r0 + an + j)) hx hb d_Be_squarePlain_34 (nI_add _ _) ?_
        refine lv_aload_n hx hb d_Be_squarePlain_35 rfl (lv_at hl 2 rfl) ?_
        refine lv_iload_n hx hb d_Be_squarePlain_36 rfl (lv_at hl 3 rfl) ?_
        refine lv_iconst (v := nI (2)) hx hb d_Be_squarePlain_37 (by decide) ?_
        refine lv_iload hx hb d_Be_squarePlain_38 (lv_at hl 0 rfl) ?_
        refine nw_imul (v := nI (2 * j)) hx hb d_Be_squarePlain_40 (pk_mul _ _) ?_
        refine nw_iadd (v := nI (r0 + (2 * j))) hx hb d_Be_squarePlain_41 (nI_add _ _) ?_
        refine lv_iconst (v := nI (1)) hx hb d_Be_squarePlain_42 (by decide) ?_
        refine nw_iadd (v := nI (r0 + (2 * j) + 1)) hx hb d_Be_squarePlain_43 (nI_add _ _) ?_
        refine lv_iload_n hx hb d_Be_squarePlain_44 rfl (lv_at hl 4 rfl) ?_
        refine lv_iload hx hb d_Be_squarePlain_45 (lv_at hl 0 rfl) ?_
        refine nw_iadd (v := nI (a0 + j)) hx hb d_Be_squarePlain_47 (nI_add _ _) ?_
        refine lv_iconst (v := nI (1)) hx hb d_Be_squarePlain_48 (by decide) ?_
        refine nw_iadd (v := nI (a0 + j + 1)) hx hb d_Be_squarePlain_49 (nI_add _ _) ?_
        refine lv_iload_n hx hb d_Be_squarePlain_50 rfl (lv_at hl 5 rfl) ?_
        refine lv_iconst (v := nI (1)) hx hb d_Be_squarePlain_51 (by decide) ?_
        refine nw_isub (v := nI (an - 1)) hx hb d_Be_squarePlain_52 (pk_sub (by omega)) ?_
        refine lv_iload hx hb d_Be_squarePlain_53 (lv_at hl 0 rfl) ?_
        refine nw_isub (v := nI (an - 1 - j)) hx hb d_Be_squarePlain_55 (pk_sub (by omega)) ?_
        refine lv_aload hx hb d_Be_squarePlain_56 (lv_at hl 1 rfl) ?_
        refine lv_iload_n hx hb d_Be_squarePlain_58 rfl (lv_at hl 4 rfl) ?_
        refine lv_iload hx hb d_Be_squarePlain_59 (lv_at hl 0 rfl) ?_
        refine nw_iadd (v := nI (a0 + j)) hx hb d_Be_squarePlain_61 (nI_add _ _) ?_
        refine nw_lR hx hb hKW.1 hP (j := a0 + j) (by omega) (x := sR w (a0 + j)) (hso _ (by omega)) d_Be_squarePlain_62 ?_
        refine lv_i2l (v := (sR w (a0 + j)).toInt64) hx hb d_Be_squarePlain_63 rfl ?_
        refine lv_ldc2 (v := 4294967295) hx hb hown (hA_ hts ll_Be_99) d_Be_squarePlain_64 ?_
        refine nw_land (v := lN (wN ((sR w (a0 + j))))) hx hb d_Be_squarePlain_67 (lw_low _) ?_
        refine wV_i (As := [.int (nI (r0 + (2 * j) + 1)), .int (nI (a0 + j + 1)), .int (nI (an - 1 - j)), .long (lN (wN ((sR w (a0 + j)))))]) (rest := [.int (nI (r0 + an + j)), .ref (ad 3)]) (n := 4) ⟨hx, hb, hml, hown, hts⟩ (c_Be_addProduct l (pR w f) _ (t0 := r0 + 2 * j + 1) (s0 := a0 + j + 1) (cnt := an - 1 - j) (φ := wN (sR w (a0 + j))) (by omega) (by omega) (by omega) (wN_lt _)) (cwV0 4 hts lm_Be_101 im_Be_addProduct se_Be_addProduct in_Be kq_Be_addProduct rfl rfl rfl (by decide +kernel) ⟨Nat.le_of_ble_eq_true rfl, Nat.le_of_ble_eq_true rfl⟩) (recvB hKW.1 hP) hKW hP hD hS rfl hl.1 rfl (Nat.le_of_ble_eq_true rfl) d_Be_squarePlain_68 ⟨Nat.zero_le _, Nat.zero_le _⟩ (fun r w1 H locs hp hP hD hS => ?_)
        obtain ⟨f1, cy, ew, er, hcy, hs1, hv1⟩ := hp
        have hs1 : so f1 f (r0 + 2 * j + 1) (an - 1 - j) := hs1
        have hv1 : vN f1 (r0 + 2 * j + 1) (an - 1 - j) + cy * 4294967296 ^ (an - 1 - j) = vN f (r0 + 2 * j + 1) (an - 1 - j) + wN (sR w (a0 + j)) * vN f (a0 + j + 1) (an - 1 - j) := hv1
        rw [hso.vN (b := a0 + j + 1) (m := an - 1 - j) (by omega)] at hv1
        rw [ew] at hP hD
        subst er
        refine nw_sR hx hb hKW.1 hP hD hS (j := r0 + an + j) (by omega) d_Be_squarePlain_71 (fun H locs hP hD hS => ?_)
        refine lv_iinc (v := nI (j + 1)) (lv' := [(5, .int (nI (j + 1))), (4, .ref (ad 3)), (0, .ref (ad 2)), (1, .int (nI (r0))), (2, .int (nI (a0))), (3, .int (nI (an)))]) hx hb d_Be_squarePlain_72 hl (k := 0) rfl (nI_add _ 1) (by decide) rfl (fun ls hl => ?_)
        refine lv_goto (tgt := 21) hx hb d_Be_squarePlain_75 (by decide) ?_
        exact ih (j + 1) (upd f1 (r0 + an + j) (nI cy)) H locs ls (by omega) (sq_step (by omega) hinv hs1 hcy hv1) (so_sq (by omega) hso hs1) hP hD hS (lv_sub hl [0, 1, 2, 3, 4, 5] rfl)
  exact loop1 an 0 (fl (sR w) r0 (r0 + 2 * an) (nI 0)) _ _ ls (by omega) (by rw [Nat.add_zero]; exact vN_zero (fun i hi => by rw [fl_in (by omega) (by omega)]; exact nI_0)) (so_fl rfl) hP hD hS (lv_sub hl [0, 1, 2, 3, 4, 5] rfl)

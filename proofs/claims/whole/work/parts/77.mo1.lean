/-! THE REFERENCE: check, in, named, fits, keep, takesTooMuch (rows laid by wip/whole/gen/c_mo1.py) -/
set_option maxHeartbeats 4000000 in
set_option maxRecDepth 100000 in
/-- check(good) -/
theorem c_Mo_check (l : Launch) {D : va_G} {cI cB cR : ClassId} {ad : Nat → Nat} (w : Mt) (sz : Nat) (hl9 : l.stackTraces = false) (x : Int32) : vx_Met l y_Mo_check (q_Mo_check :: wA) { frames := 6, cells := 1, slots := 6, locals := 90 } (va_Pc [.int (x)] (PM D cI cB cR ad w sz)) (va_Qv (fun w1 : Mt => w1 = w ∧ ¬ x = 0) (BM D cI cB cR ad) (AM ad sz)) (XM D cI cB cR ad (fun E u => E = E_IA ∧ u = w ∧ x = 0) sz) 1 6 (AM ad sz) := by
  refine vx_ofW (cc := b_Mo_check) (maxL := 1) (ret := none) (by decide) rfl ?_
  intro p e s m args below meth c s₁ B hml htab hv
  obtain ⟨rfl, hsz, hP, hD0, hKW⟩ := hv
  have hx := B.exec
  have hb := B.bytes
  have hr := B.returns
  have hts := atoms_spec (ws := q_Mo_check :: wA) B.pre
  have hown : s.vm.findClass R_Mo = some m.cls := findClass_of_methodNamed B.named
  have hlocks := B.notSynchronized
  subst hsz
  have hD := NM_AM (sz := s.heap.size) hD0
  have hS : va_S (AM ad s.heap.size) s.heap s.heap [] := va_S.rf
  have hl := lv_entry ([.int (x)]) (n := 1) (Nat.le_of_ble_eq_true rfl)
  rw [lg_entry_eq]
  generalize (lg_sl ([.int (x)]) ++ List.replicate (1 - (lg_sl ([.int (x)])).length) Slot.unset).toArray = ls at hl ⊢
  have hl : lv_has ls 1 [(0, .int (x))] := hl
  refine lv_iload_n hx hb d_Mo_check_0 rfl (lv_at hl 0 rfl) ?_
  refine lv_if_ne (tgt := 12) hx hb d_Mo_check_1 (by decide) (fun c1 => ?_) (fun c1 => ?_)
  · skip
    exact vx_ret (W.widen (k := 1) (n := 6) (Nat.le_of_ble_eq_true rfl) (Nat.le_of_ble_eq_true rfl) (W.vret hx hb hr (fun t ht hW => ⟨⟨w, rfl, ⟨rfl, c1⟩, BM_of ht hP⟩, hS.F ht⟩) hS.2.2 d_Mo_check_12))
  · skip
    exact ythrow hx hb hl9 hown (by decide) hts ta_Mo_IA tb_Mo_IA tg_Mo_IA tk_Mo_IA ti_IA hKW hP hS (hl.1.trans hml.symm) d_Mo_check_4 d_Mo_check_7 d_Mo_check_8 d_Mo_check_11 htab hlocks (Nat.le_of_ble_eq_true rfl) (Nat.le_of_ble_eq_true rfl) (Nat.le_of_ble_eq_true rfl) (Nat.le_of_ble_eq_true rfl) (Nat.le_of_ble_eq_true rfl) (Nat.le_of_ble_eq_true rfl) (⟨rfl, rfl, c1⟩)
set_option maxHeartbeats 4000000 in
set_option maxRecDepth 100000 in
/-- in(v, low, high) -/
theorem c_Mo_in (l : Launch) {D : va_G} {cI cB cR : ClassId} {ad : Nat → Nat} (w : Mt) (sz : Nat) (x lo hi9 : Int32) : Met l y_Mo_in (q_Mo_in :: wA) { frames := 0, cells := 0, slots := 0, locals := 0 } (va_Pc [.int (x), .int (lo), .int (hi9)] (PM D cI cB cR ad w sz)) (va_Qi (fun (r : Int32) (w1 : Mt) => w1 = w ∧ ((r = nI 1 ∧ lo ≤ x ∧ x ≤ hi9) ∨ (r = 0 ∧ ¬ (lo ≤ x ∧ x ≤ hi9)))) (BM D cI cB cR ad) (AM ad sz)) 0 0 (AM ad sz) := by
  refine Met.ofW (cc := b_Mo_in) (maxL := 3) (ret := (some (.boolean))) (by decide) rfl ?_
  intro p e s m args below meth c s₁ B hml hv
  obtain ⟨rfl, hsz, hP, hD0, hKW⟩ := hv
  have hx := B.exec
  have hb := B.bytes
  have hr := B.returns
  have hts := atoms_spec (ws := q_Mo_in :: wA) B.pre
  have hown : s.vm.findClass R_Mo = some m.cls := findClass_of_methodNamed B.named
  have hlocks := B.notSynchronized
  subst hsz
  have hD := NM_AM (sz := s.heap.size) hD0
  have hS : va_S (AM ad s.heap.size) s.heap s.heap [] := va_S.rf
  have hl := lv_entry ([.int (x), .int (lo), .int (hi9)]) (n := 3) (Nat.le_of_ble_eq_true rfl)
  rw [lg_entry_eq]
  generalize (lg_sl ([.int (x), .int (lo), .int (hi9)]) ++ List.replicate (3 - (lg_sl ([.int (x), .int (lo), .int (hi9)])).length) Slot.unset).toArray = ls at hl ⊢
  have hl : lv_has ls 3 [(0, .int (x)), (1, .int (lo)), (2, .int (hi9))] := hl
  refine lv_iload_n hx hb d_Mo_in_0 rfl (lv_at hl 0 rfl) ?_
  refine lv_iload_n hx hb d_Mo_in_1 rfl (lv_at hl 1 rfl) ?_
  refine lv_icmp_lt (tgt := 14) hx hb d_Mo_in_2 (by decide) (fun c2 => ?_) (fun c2 => ?_)
  · skip
    refine lv_iconst (v := nI (0)) hx hb d_Mo_in_14 (by decide) ?_
    exact W.zret (v := nI (0)) hx hb hr (by decide) (fun t ht hW => ⟨⟨_, w, rfl, ⟨rfl, Or.inr ⟨nI_0, fun h => absurd c2 (Int32.not_lt.mpr h.1)⟩⟩, BM_of ht hP⟩, hS.F ht⟩) hS.2.2 d_Mo_in_15
  · skip
    refine lv_iload_n hx hb d_Mo_in_5 rfl (lv_at hl 0 rfl) ?_
    refine lv_iload_n hx hb d_Mo_in_6 rfl (lv_at hl 2 rfl) ?_
    refine lv_icmp_gt (tgt := 14) hx hb d_Mo_in_7 (by decide) (fun c7 => ?_) (fun c7 => ?_)
    · skip
      refine lv_iconst (v := nI (0)) hx hb d_Mo_in_14 (by decide) ?_
      exact W.zret (v := nI (0)) hx hb hr (by decide) (fun t ht hW => ⟨⟨_, w, rfl, ⟨rfl, Or.inr ⟨nI_0, fun h => absurd c7 (Int32.not_lt.mpr h.2)⟩⟩, BM_of ht hP⟩, hS.F ht⟩) hS.2.2 d_Mo_in_15
    · skip
      refine lv_iconst (v := nI (1)) hx hb d_Mo_in_10 (by decide) ?_
      refine lv_goto (tgt := 15) hx hb d_Mo_in_11 (by decide) ?_
      exact W.zret (v := nI (1)) hx hb hr (by decide) (fun t ht hW => ⟨⟨_, w, rfl, ⟨rfl, Or.inl ⟨rfl, Int32.not_lt.mp c2, Int32.not_lt.mp c7⟩⟩, BM_of ht hP⟩, hS.F ht⟩) hS.2.2 d_Mo_in_15
set_option maxHeartbeats 4000000 in
set_option maxRecDepth 100000 in
/-- named(r) -/
theorem c_Mo_named (l : Launch) {D : va_G} {cI cB cR : ClassId} {ad : Nat → Nat} (w : Mt) (sz : Nat) (hl9 : l.stackTraces = false) (x : Int32) : vx_Met l y_Mo_named (q_Mo_named :: wA) { frames := 8, cells := 1, slots := 6, locals := 130 } (va_Pc [.int (x)] (PM D cI cB cR ad w sz)) (va_Qv (fun w1 : Mt => w1 = w ∧ nI 0 ≤ x ∧ x ≤ nI 9) (BM D cI cB cR ad) (AM ad sz)) (XM D cI cB cR ad (fun E u => E = E_IA ∧ u = w ∧ ¬ (nI 0 ≤ x ∧ x ≤ nI 9)) sz) 1 6 (AM ad sz) := by
  refine vx_ofW (cc := b_Mo_named) (maxL := 1) (ret := none) (by decide) rfl ?_
  intro p e s m args below meth c s₁ B hml htab hv
  obtain ⟨rfl, hsz, hP, hD0, hKW⟩ := hv
  have hx := B.exec
  have hb := B.bytes
  have hr := B.returns
  have hts := atoms_spec (ws := q_Mo_named :: wA) B.pre
  have hown : s.vm.findClass R_Mo = some m.cls := findClass_of_methodNamed B.named
  have hlocks := B.notSynchronized
  subst hsz
  have hD := NM_AM (sz := s.heap.size) hD0
  have hS : va_S (AM ad s.heap.size) s.heap s.heap [] := va_S.rf
  have hl := lv_entry ([.int (x)]) (n := 1) (Nat.le_of_ble_eq_true rfl)
  rw [lg_entry_eq]
  generalize (lg_sl ([.int (x)]) ++ List.replicate (1 - (lg_sl ([.int (x)])).length) Slot.unset).toArray = ls at hl ⊢
  have hl : lv_has ls 1 [(0, .int (x))] := hl
  refine lv_iload_n hx hb d_Mo_named_0 rfl (lv_at hl 0 rfl) ?_
  refine lv_iconst (v := nI (0)) hx hb d_Mo_named_1 (by decide) ?_
  refine lv_bipush (v := nI (9)) hx hb d_Mo_named_2 (by decide) ?_
  refine zS_i (As := [.int (x), .int (nI (0)), .int (nI (9))]) (rest := []) (n := 3) ⟨hx, hb, hml, hown, hts⟩ (c_Mo_in l w _ x (nI 0) (nI 9)) (cwS0 3 hts lm_Mo_56 st_Mo_in in_Mo kq_Mo_in rfl rfl rfl (by decide +kernel) ⟨Nat.le_of_ble_eq_true rfl, Nat.le_of_ble_eq_true rfl⟩) hKW hP hD hS rfl hl.1 rfl (Nat.le_of_ble_eq_true rfl) d_Mo_named_4 ⟨Nat.zero_le _, Nat.zero_le _⟩ (fun r w1 H locs hp hP hD hS => ?_)
  obtain ⟨ew, hor⟩ := hp
  rw [ew] at hP hD
  refine yS_v (As := [.int (r)]) (rest := []) (n := 1) ⟨hx, hb, hml, hown, hts⟩ (c_Mo_check l w _ hl9 r) (cwS0 1 hts lm_Mo_60 st_Mo_check in_Mo kq_Mo_check rfl rfl rfl (by decide +kernel) ⟨Nat.le_of_ble_eq_true rfl, Nat.le_of_ble_eq_true rfl⟩) hKW hP hD hS rfl hl.1 rfl (Nat.le_of_ble_eq_true rfl) d_Mo_named_7 ⟨Nat.le_of_ble_eq_true rfl, Nat.le_of_ble_eq_true rfl⟩ htab hlocks ⟨Nat.le_of_ble_eq_true rfl, Nat.le_of_ble_eq_true rfl⟩ (fun E u h => by obtain ⟨a1, a2, a3⟩ := h; refine ⟨a1, a2, ?_⟩; rcases hor with z | z; exact absurd (z.1.symm.trans a3) (by decide); exact z.2) (fun w2 H locs hp hP hD hS => ?_)
  obtain ⟨ew, hne⟩ := hp
  rw [ew] at hP hD
  have hin : nI 0 ≤ x ∧ x ≤ nI 9 := by rcases hor with z | z; exact z.2; exact absurd z.1 hne
  exact vx_ret (W.widen (k := 1) (n := 6) (Nat.le_of_ble_eq_true rfl) (Nat.le_of_ble_eq_true rfl) (W.vret hx hb hr (fun t ht hW => ⟨⟨w, rfl, ⟨rfl, hin⟩, BM_of ht hP⟩, hS.F ht⟩) hS.2.2 d_Mo_named_10))
set_option maxHeartbeats 4000000 in
set_option maxRecDepth 100000 in
/-- fits(bits) -/
theorem c_Mo_fits (l : Launch) {D : va_G} {cI cB cR : ClassId} {ad : Nat → Nat} (w : Mt) (sz : Nat) (hl9 : l.stackTraces = false) {b : Nat} (hb9 : b < 2 ^ 63) : vx_Met l y_Mo_fits (q_Mo_fits :: wA) { frames := 6, cells := 1, slots := 6, locals := 90 } (va_Pc [.long (lN (b))] (PM D cI cB cR ad w sz)) (va_Qv (fun w1 : Mt => w1 = w ∧ b ≤ 200000) (BM D cI cB cR ad) (AM ad sz)) (XM D cI cB cR ad (fun E u => E = E_IS ∧ u = w ∧ 200000 < b) sz) 1 6 (AM ad sz) := by
  refine vx_ofW (cc := b_Mo_fits) (maxL := 2) (ret := none) (by decide) rfl ?_
  intro p e s m args below meth c s₁ B hml htab hv
  obtain ⟨rfl, hsz, hP, hD0, hKW⟩ := hv
  have hx := B.exec
  have hb := B.bytes
  have hr := B.returns
  have hts := atoms_spec (ws := q_Mo_fits :: wA) B.pre
  have hown : s.vm.findClass R_Mo = some m.cls := findClass_of_methodNamed B.named
  have hlocks := B.notSynchronized
  subst hsz
  have hD := NM_AM (sz := s.heap.size) hD0
  have hS : va_S (AM ad s.heap.size) s.heap s.heap [] := va_S.rf
  have hl := lv_entry ([.long (lN (b))]) (n := 2) (Nat.le_of_ble_eq_true rfl)
  rw [lg_entry_eq]
  generalize (lg_sl ([.long (lN (b))]) ++ List.replicate (2 - (lg_sl ([.long (lN (b))])).length) Slot.unset).toArray = ls at hl ⊢
  have hl : lv_has ls 2 [(0, .long (lN (b)))] := hl
  refine lv_lload_n hx hb d_Mo_fits_0 rfl (lv_at hl 0 rfl) ?_
  refine lv_ldc2 (v := lN 200000) hx hb hown (hA_ hts ll_Mo_64) d_Mo_fits_1 ?_
  refine W.lcmp hx hb d_Mo_fits_4 ?_
  refine lv_if_le (tgt := 16) hx hb d_Mo_fits_5 (by decide) (fun c5 => ?_) (fun c5 => ?_)
  · skip
    have c5 : b ≤ 200000 := (pk_lLE (by omega) (by omega)).mp ((lg_cmp_le _ _).mp c5)
    exact vx_ret (W.widen (k := 1) (n := 6) (Nat.le_of_ble_eq_true rfl) (Nat.le_of_ble_eq_true rfl) (W.vret hx hb hr (fun t ht hW => ⟨⟨w, rfl, ⟨rfl, c5⟩, BM_of ht hP⟩, hS.F ht⟩) hS.2.2 d_Mo_fits_16))
  · skip
    have c5 : ¬ (b ≤ 200000) := fun h => c5 ((lg_cmp_le _ _).mpr ((pk_lLE (by omega) (by omega)).mpr h))
    exact ythrow hx hb hl9 hown (by decide) hts ta_Mo_IS tb_Mo_IS tg_Mo_IS tk_Mo_IS ti_IS hKW hP hS (hl.1.trans hml.symm) d_Mo_fits_8 d_Mo_fits_11 d_Mo_fits_12 d_Mo_fits_15 htab hlocks (Nat.le_of_ble_eq_true rfl) (Nat.le_of_ble_eq_true rfl) (Nat.le_of_ble_eq_true rfl) (Nat.le_of_ble_eq_true rfl) (Nat.le_of_ble_eq_true rfl) (Nat.le_of_ble_eq_true rfl) (⟨rfl, rfl, Nat.not_le.mp c5⟩)
set_option maxHeartbeats 4000000 in
set_option maxRecDepth 100000 in
/-- keep(r, x) -/
theorem c_Mo_keep (l : Launch) {D : va_G} {cI cB cR : ClassId} {ad : Nat → Nat} (w : Mt) (sz : Nat) {x a v : Nat} (hx10 : x < 10) (ha : a < 19) (ha10 : 10 ≤ a) (h3 : W3 w) (hv : NU w a v) : Met l y_Mo_keep (q_Mo_keep :: wA) { frames := 3, cells := 0, slots := 0, locals := 100 } (va_Pc [.ref (ad 0), .int (nI (x)), .ref (ad (2 * a + 4))] (PM D cI cB cR ad w sz)) (va_Qi (fun (r : Int32) (w1 : Mt) => r = nI (nb v) ∧ eqM w w1 [x] ∧ NU w1 x (v) ∧ W3 w1) (BM D cI cB cR ad) (AM ad sz)) 0 0 (AM ad sz) := by
  refine Met.ofW (cc := b_Mo_keep) (maxL := 3) (ret := (some (.int))) (by decide) rfl ?_
  intro p e s m args below meth c s₁ B hml hv
  obtain ⟨rfl, hsz, hP, hD0, hKW⟩ := hv
  have hx := B.exec
  have hb := B.bytes
  have hr := B.returns
  have hts := atoms_spec (ws := q_Mo_keep :: wA) B.pre
  have hown : s.vm.findClass R_Mo = some m.cls := findClass_of_methodNamed B.named
  have hlocks := B.notSynchronized
  subst hsz
  have hD := NM_AM (sz := s.heap.size) hD0
  have hS : va_S (AM ad s.heap.size) s.heap s.heap [] := va_S.rf
  have hl := lv_entry ([.ref (ad 0), .int (nI (x)), .ref (ad (2 * a + 4))]) (n := 3) (Nat.le_of_ble_eq_true rfl)
  rw [lg_entry_eq]
  generalize (lg_sl ([.ref (ad 0), .int (nI (x)), .ref (ad (2 * a + 4))]) ++ List.replicate (3 - (lg_sl ([.ref (ad 0), .int (nI (x)), .ref (ad (2 * a + 4))])).length) Slot.unset).toArray = ls at hl ⊢
  have hl : lv_has ls 3 [(0, .ref (ad 0)), (1, .int (nI (x))), (2, .ref (ad (2 * a + 4)))] := hl
  refine lv_aload_n hx hb d_Mo_keep_0 rfl (lv_at hl 0 rfl) ?_
  refine mw_gF0 hx hb hts hown hKW.1 hP lf_Mo_11 d_Mo_keep_1 ?_
  refine lv_iload_n hx hb d_Mo_keep_4 rfl (lv_at hl 1 rfl) ?_
  refine mw_lG hx hb hKW.1 hP (j := x) (by omega) d_Mo_keep_5 ?_
  refine lv_aload_n hx hb d_Mo_keep_6 rfl (lv_at hl 2 rfl) ?_
  refine zV_v (As := [.ref (ad (2 * a + 4))]) (rest := []) (n := 1) ⟨hx, hb, hml, hown, hts⟩ (c_Mn_set_N l w _ (i := x) (a := a) (by omega) (by omega) (by omega) h3 hv) (cwV0 1 hts lm_Mo_69 im_Mn_set_N se_Mn_set_N in_Mn kq_Mn_set_N rfl rfl rfl (by decide +kernel) ⟨Nat.le_of_ble_eq_true rfl, Nat.le_of_ble_eq_true rfl⟩) (recMn hKW.1 hP (i := x) (by omega)) hKW hP hD hS rfl hl.1 rfl (Nat.le_of_ble_eq_true rfl) d_Mo_keep_7 ⟨Nat.zero_le _, Nat.zero_le _⟩ (fun w1 H locs hp hP hD hS => ?_)
  obtain ⟨hE1, hV1, h31⟩ := hp
  refine lv_aload_n hx hb d_Mo_keep_10 rfl (lv_at hl 2 rfl) ?_
  refine zV_i (As := []) (rest := []) (n := 0) ⟨hx, hb, hml, hown, hts⟩ (c_Mn_bits l w1 _ (i := a) (by omega) h31 (hE1.nu (by simp; omega) hv)) (cwV0 0 hts lm_Mo_73 im_Mn_bits se_Mn_bits in_Mn kq_Mn_bits rfl rfl rfl (by decide +kernel) ⟨Nat.le_of_ble_eq_true rfl, Nat.le_of_ble_eq_true rfl⟩) (recMn hKW.1 hP (i := a) (by omega)) hKW hP hD hS rfl hl.1 rfl (Nat.le_of_ble_eq_true rfl) d_Mo_keep_11 ⟨Nat.zero_le _, Nat.zero_le _⟩ (fun r w2 H locs hp hP hD hS => ?_)
  obtain ⟨er, ew⟩ := hp
  rw [ew] at hP hD
  subst er
  exact W.iret (v := nI (nb v)) hx hb hr (fun t ht hW => ⟨⟨_, w1, rfl, ⟨rfl, hE1, hV1, h31⟩, BM_of ht hP⟩, hS.F ht⟩) hS.2.2 d_Mo_keep_14
set_option maxHeartbeats 4000000 in
set_option maxRecDepth 100000 in
/-- takesTooMuch(q, j, n) -/
theorem c_Mo_takesTooMuch (l : Launch) {D : va_G} {cI cB cR : ClassId} {ad : Nat → Nat} (w : Mt) (sz : Nat) {x j n : Nat} (h3 : W3 w) (hx9 : x < 1073741824) (hjn : j + n < 6800) : Met l y_Mo_takesTooMuch (q_Mo_takesTooMuch :: wA) { frames := 0, cells := 0, slots := 0, locals := 0 } (va_Pc [.ref (ad 0), .long (lN (x)), .int (nI (j)), .int (nI (n))] (PM D cI cB cR ad w sz)) (va_Qi (fun (r : Int32) (w1 : Mt) => ∃ f, w1 = st w 13 f (mL w 13) ∧ B3 f ∧ (∀ z, (z < j ∨ j + (n + 1) ≤ z) → f z = mW w 13 z) ∧ ((r = nI 0 ∧ uV f j (n + 1) + x * uV (mW w 14) 0 n = uV (mW w 13) j (n + 1)) ∨ (r = nI 1 ∧ uV (mW w 13) j (n + 1) < x * uV (mW w 14) 0 n ∧ uV f j (n + 1) = uV (mW w 13) j (n + 1)))) (BM D cI cB cR ad) (AM ad sz)) 0 0 (AM ad sz) := by
  refine Met.ofW (cc := b_Mo_takesTooMuch) (maxL := 11) (ret := (some (.boolean))) (by decide) rfl ?_
  intro p e s m args below meth c s₁ B hml hv
  obtain ⟨rfl, hsz, hP, hD0, hKW⟩ := hv
  have hx := B.exec
  have hb := B.bytes
  have hr := B.returns
  have hts := atoms_spec (ws := q_Mo_takesTooMuch :: wA) B.pre
  have hown : s.vm.findClass R_Mo = some m.cls := findClass_of_methodNamed B.named
  have hlocks := B.notSynchronized
  subst hsz
  have hD := NM_AM (sz := s.heap.size) hD0
  have hS : va_S (AM ad s.heap.size) s.heap s.heap [] := va_S.rf
  have hl := lv_entry ([.ref (ad 0), .long (lN (x)), .int (nI (j)), .int (nI (n))]) (n := 11) (Nat.le_of_ble_eq_true rfl)
  rw [lg_entry_eq]
  generalize (lg_sl ([.ref (ad 0), .long (lN (x)), .int (nI (j)), .int (nI (n))]) ++ List.replicate (11 - (lg_sl ([.ref (ad 0), .long (lN (x)), .int (nI (j)), .int (nI (n))])).length) Slot.unset).toArray = ls at hl ⊢
  have hl : lv_has ls 11 [(0, .ref (ad 0)), (1, .long (lN (x))), (3, .int (nI (j))), (4, .int (nI (n)))] := hl
  refine lv_lconst (v := lN (0)) hx hb d_Mo_takesTooMuch_0 (by decide) ?_
  refine lv_lstore (lv' := [(5, .long (lN (0))), (0, .ref (ad 0)), (1, .long (lN (x))), (3, .int (nI (j))), (4, .int (nI (n)))]) hx hb d_Mo_takesTooMuch_1 hl (by decide) rfl (fun ls hl => ?_)
  refine lv_iconst (v := nI (0)) hx hb d_Mo_takesTooMuch_3 (by decide) ?_
  refine lv_istore (lv' := [(7, .int (nI (0))), (5, .long (lN (0))), (0, .ref (ad 0)), (1, .long (lN (x))), (3, .int (nI (j))), (4, .int (nI (n)))]) hx hb d_Mo_takesTooMuch_4 hl (by decide) rfl (fun ls hl => ?_)
  have loop : ∀ (q t y : Nat) (f : Nat → Nat) (H : Heap) (locs : List Loc) (ls : Array Slot), t + q = n + 1 → y < 1073741824 → B3 f → uV f j t + x * uM (mW w 14) n t = uV (mW w 13) j t + y * 1073741824 ^ t → (∀ z, (z < j ∨ j + t ≤ z) → f z = mW w 13 z) → va_P D clA (NM cI cB cR ad (st w 13 f (mL w 13))) H → va_D (AM ad s.heap.size) (NM cI cB cR ad (st w 13 f (mL w 13))) → va_S (AM ad s.heap.size) s.heap H locs → lv_has ls 11 [(7, .int (nI (t))), (5, .long (lN (y))), (0, .ref (ad 0)), (1, .long (lN (x))), (3, .int (nI (j))), (4, .int (nI (n)))] → W p l e (headSpec (q_Mo_takesTooMuch :: wA) { frames := 0, cells := 0, slots := 0, locals := 0 }).room s m ([.ref (ad 0), .long (lN (x)), .int (nI (j)), .int (nI (n))] : List Value).toArray below meth c H locs 0 0 (MQ below (va_Qi (fun (r : Int32) (w1 : Mt) => ∃ f, w1 = st w 13 f (mL w 13) ∧ B3 f ∧ (∀ z, (z < j ∨ j + (n + 1) ≤ z) → f z = mW w 13 z) ∧ ((r = nI 0 ∧ uV f j (n + 1) + x * uV (mW w 14) 0 n = uV (mW w 13) j (n + 1)) ∨ (r = nI 1 ∧ uV (mW w 13) j (n + 1) < x * uV (mW w 14) 0 n ∧ uV f j (n + 1) = uV (mW w 13) j (n + 1)))) (BM D cI cB cR ad) (AM ad s.heap.size)) ([.ref (ad 0), .long (lN (x)), .int (nI (j)), .int (nI (n))] : List Value).toArray s 0 0 (AM ad s.heap.size)) (F0 m 6 ls []) := by
    intro q
    induction q with
    | zero =>
      intro t y f H locs ls hj hy hB hinv hk hP hD hS hl
      refine lv_iload hx hb d_Mo_takesTooMuch_6 (lv_at hl 0 rfl) ?_
      refine lv_iload hx hb d_Mo_takesTooMuch_8 (lv_at hl 5 rfl) ?_
      refine lv_icmp_gt (tgt := 88) hx hb d_Mo_takesTooMuch_10 (by decide) (fun c10 => ?_) (fun c10 => ?_)
      · skip
        have c10 : n < t := (nI_ltI (by omega) (by omega)).mp c10
        have ej : t = n + 1 := by omega
        subst ej
        rw [uM_all (by omega)] at hinv
        refine lv_lload hx hb d_Mo_takesTooMuch_88 (lv_at hl 1 rfl) ?_
        refine lv_lconst (v := lN (0)) hx hb d_Mo_takesTooMuch_90 (by decide) ?_
        refine W.lcmp hx hb d_Mo_takesTooMuch_91 ?_
        refine lv_if_ne (tgt := 97) hx hb d_Mo_takesTooMuch_92 (by decide) (fun c92 => ?_) (fun c92 => ?_)
        · skip
          have c92 : ¬ (y = 0) := fun h => c92 ((lg_cmp_eq _ _).mpr ((lN_eqI (by omega) (by omega)).mpr h))
          have hlt1 := uV_lt hB j (n + 1)
          have hlt2 := uV_lt (h3 13) j (n + 1)
          have hy1 : 1 * 1073741824 ^ (n + 1) ≤ y * 1073741824 ^ (n + 1) := Nat.mul_le_mul_right _ (by omega)
          have hXlt : uV (mW w 13) j (n + 1) < x * uV (mW w 14) 0 n := by omega
          refine lv_iconst (v := nI (0)) hx hb d_Mo_takesTooMuch_97 (by decide) ?_
          refine lv_istore (lv' := [(7, .int (nI (0))), (5, .long (lN (y))), (0, .ref (ad 0)), (1, .long (lN (x))), (3, .int (nI (j))), (4, .int (nI (n)))]) hx hb d_Mo_takesTooMuch_98 hl (by decide) rfl (fun ls hl => ?_)
          refine lv_lconst (v := lN (0)) hx hb d_Mo_takesTooMuch_100 (by decide) ?_
          refine lv_lstore (lv' := [(5, .long (lN (0))), (7, .int (nI (0))), (0, .ref (ad 0)), (1, .long (lN (x))), (3, .int (nI (j))), (4, .int (nI (n)))]) hx hb d_Mo_takesTooMuch_101 hl (by decide) rfl (fun ls hl => ?_)
          refine lv_iconst (v := nI (0)) hx hb d_Mo_takesTooMuch_103 (by decide) ?_
          refine lv_istore (lv' := [(8, .int (nI (0))), (5, .long (lN (0))), (7, .int (nI (0))), (0, .ref (ad 0)), (1, .long (lN (x))), (3, .int (nI (j))), (4, .int (nI (n)))]) hx hb d_Mo_takesTooMuch_104 hl (by decide) rfl (fun ls hl => ?_)
          have back : ∀ (q t y2 bk : Nat) (f2 : Nat → Nat) (H : Heap) (locs : List Loc) (ls : Array Slot), t + q = n + 1 → y2 < 1073741824 → bk < 1073741824 → B3 f2 → uV f2 j t + y2 * 1073741824 ^ t = uV f j t + x * uM (mW w 14) n t → (∀ z, (z < j ∨ j + t ≤ z) → f2 z = f z) → va_P D clA (NM cI cB cR ad (st w 13 f2 (mL w 13))) H → va_D (AM ad s.heap.size) (NM cI cB cR ad (st w 13 f2 (mL w 13))) → va_S (AM ad s.heap.size) s.heap H locs → lv_has ls 11 [(8, .int (nI (t))), (5, .long (lN (y2))), (7, .int (nI (bk))), (0, .ref (ad 0)), (1, .long (lN (x))), (3, .int (nI (j))), (4, .int (nI (n)))] → W p l e (headSpec (q_Mo_takesTooMuch :: wA) { frames := 0, cells := 0, slots := 0, locals := 0 }).room s m ([.ref (ad 0), .long (lN (x)), .int (nI (j)), .int (nI (n))] : List Value).toArray below meth c H locs 0 0 (MQ below (va_Qi (fun (r : Int32) (w1 : Mt) => ∃ f, w1 = st w 13 f (mL w 13) ∧ B3 f ∧ (∀ z, (z < j ∨ j + (n + 1) ≤ z) → f z = mW w 13 z) ∧ ((r = nI 0 ∧ uV f j (n + 1) + x * uV (mW w 14) 0 n = uV (mW w 13) j (n + 1)) ∨ (r = nI 1 ∧ uV (mW w 13) j (n + 1) < x * uV (mW w 14) 0 n ∧ uV f j (n + 1) = uV (mW w 13) j (n + 1)))) (BM D cI cB cR ad) (AM ad s.heap.size)) ([.ref (ad 0), .long (lN (x)), .int (nI (j)), .int (nI (n))] : List Value).toArray s 0 0 (AM ad s.heap.size)) (F0 m 106 ls []) := by
            intro q
            induction q with
            | zero =>
              intro t y2 bk f2 H locs ls hj hy2 hbk hB2 hinv2 hk2 hP hD hS hl
              refine lv_iload hx hb d_Mo_takesTooMuch_106 (lv_at hl 0 rfl) ?_
              refine lv_iload hx hb d_Mo_takesTooMuch_108 (lv_at hl 6 rfl) ?_
              refine lv_icmp_gt (tgt := 192) hx hb d_Mo_takesTooMuch_110 (by decide) (fun c110 => ?_) (fun c110 => ?_)
              · skip
                have c110 : n < t := (nI_ltI (by omega) (by omega)).mp c110
                have ej : t = n + 1 := by omega
                subst ej
                rw [uM_all (by omega)] at hinv2
                have hlt3 := uV_lt hB2 j (n + 1)
                have hval : uV f2 j (n + 1) = uV (mW w 13) j (n + 1) := by
                  have e9 : uV f2 j (n + 1) + y2 * 1073741824 ^ (n + 1) = uV (mW w 13) j (n + 1) + y * 1073741824 ^ (n + 1) := by omega
                  have m1 := congrArg (· % 1073741824 ^ (n + 1)) e9
                  simp only [Nat.add_mul_mod_self_right] at m1
                  rw [Nat.mod_eq_of_lt hlt3, Nat.mod_eq_of_lt hlt2] at m1
                  exact m1
                refine lv_iload hx hb d_Mo_takesTooMuch_192 (lv_at hl 2 rfl) ?_
                refine lv_if_lt (tgt := 201) hx hb d_Mo_takesTooMuch_194 (by decide) (fun c194 => ?_) (fun c194 => ?_)
                · skip
                  have c194 : bk < 0 := (nI_ltI (by omega) (by omega)).mp (by first | (rw [nI_0]; exact c194) | rw [nI_0])
                  omega
                · skip
                  have c194 : ¬ (bk < 0) := fun h => c194 (by have := (nI_ltI (by omega) (by omega)).mpr h; rwa [nI_0] at this)
                  refine lv_iconst (v := nI (1)) hx hb d_Mo_takesTooMuch_197 (by decide) ?_
                  refine lv_goto (tgt := 202) hx hb d_Mo_takesTooMuch_198 (by decide) ?_
                  exact W.zret (v := nI (1)) hx hb hr (by decide) (fun t ht hW => ⟨⟨_, st w 13 f2 (mL w 13), rfl, ⟨f2, rfl, hB2, fun z hz => (hk2 z (by omega)).trans (hk z (by omega)), Or.inr ⟨rfl, hXlt, hval⟩⟩, BM_of ht hP⟩, hS.F ht⟩) hS.2.2 d_Mo_takesTooMuch_202
              · skip
                have c110 : ¬ (n < t) := fun h => c110 ((nI_ltI (by omega) (by omega)).mpr h)
                omega
            | succ q ih2 =>
              intro t y2 bk f2 H locs ls hj hy2 hbk hB2 hinv2 hk2 hP hD hS hl
              refine lv_iload hx hb d_Mo_takesTooMuch_106 (lv_at hl 0 rfl) ?_
              refine lv_iload hx hb d_Mo_takesTooMuch_108 (lv_at hl 6 rfl) ?_
              refine lv_icmp_gt (tgt := 192) hx hb d_Mo_takesTooMuch_110 (by decide) (fun c110 => ?_) (fun c110 => ?_)
              · skip
                have c110 : n < t := (nI_ltI (by omega) (by omega)).mp c110
                omega
              · skip
                have c110 : ¬ (n < t) := fun h => c110 ((nI_ltI (by omega) (by omega)).mpr h)
                have hf9 := hB2 (j + t)
                have hd9 := h3 14 t
                have hk9 := hk2 (j + t) (by omega)
                have hb9 := pr_bnd hx9 hd9 hf9 hy2
                refine lv_aload_n hx hb d_Mo_takesTooMuch_113 rfl (lv_at hl 3 rfl) ?_
                refine mw_gF4 hx hb hts hown hKW.1 hP lf_Mo_28 d_Mo_takesTooMuch_114 ?_
                refine mw_gW hx hb hts hown hKW.1 hP (i := 13) (by omega) lf_Mo_118 d_Mo_takesTooMuch_117 ?_
                refine lv_iload_n hx hb d_Mo_takesTooMuch_120 rfl (lv_at hl 5 rfl) ?_
                refine lv_iload hx hb d_Mo_takesTooMuch_121 (lv_at hl 0 rfl) ?_
                refine nw_iadd (v := nI (j + t)) hx hb d_Mo_takesTooMuch_123 (nI_add _ _) ?_
                refine mw_lW hx hb hKW.1 hP (i := 13) (by omega) (j := j + t) (by omega) (x := f2 (j + t)) (by rw [st_mW]) d_Mo_takesTooMuch_124 ?_
                refine lv_i2l (v := lN (f2 (j + t))) hx hb d_Mo_takesTooMuch_125 (nI_l (by omega)) ?_
                refine lv_iload hx hb d_Mo_takesTooMuch_126 (lv_at hl 0 rfl) ?_
                refine lv_iload hx hb d_Mo_takesTooMuch_128 (lv_at hl 6 rfl) ?_
                refine lv_icmp_ge (tgt := 149) hx hb d_Mo_takesTooMuch_130 (by decide) (fun c130 => ?_) (fun c130 => ?_)
                · skip
                  have c130 : n ≤ t := (nI_leI (by omega) (by omega)).mp c130
                  have hS9 : f2 (j + t) + 0 + y2 < 2 ^ 62 := by omega
                  refine lv_lconst (v := lN (0)) hx hb d_Mo_takesTooMuch_149 (by decide) ?_
                  refine nw_ladd (v := lN (f2 (j + t) + 0)) hx hb d_Mo_takesTooMuch_150 (lN_add _ _) ?_
                  refine lv_lload hx hb d_Mo_takesTooMuch_151 (lv_at hl 1 rfl) ?_
                  refine nw_ladd (v := lN (f2 (j + t) + 0 + y2)) hx hb d_Mo_takesTooMuch_153 (lN_add _ _) ?_
                  refine lv_lstore (lv' := [(9, .long (lN (f2 (j + t) + 0 + y2))), (8, .int (nI (t))), (5, .long (lN (y2))), (7, .int (nI (bk))), (0, .ref (ad 0)), (1, .long (lN (x))), (3, .int (nI (j))), (4, .int (nI (n)))]) hx hb d_Mo_takesTooMuch_154 hl (by decide) rfl (fun ls hl => ?_)
                  refine lv_aload_n hx hb d_Mo_takesTooMuch_156 rfl (lv_at hl 4 rfl) ?_
                  refine mw_gF4 hx hb hts hown hKW.1 hP lf_Mo_28 d_Mo_takesTooMuch_157 ?_
                  refine mw_gW hx hb hts hown hKW.1 hP (i := 13) (by omega) lf_Mo_118 d_Mo_takesTooMuch_160 ?_
                  refine lv_iload_n hx hb d_Mo_takesTooMuch_163 rfl (lv_at hl 6 rfl) ?_
                  refine lv_iload hx hb d_Mo_takesTooMuch_164 (lv_at hl 1 rfl) ?_
                  refine nw_iadd (v := nI (j + t)) hx hb d_Mo_takesTooMuch_166 (nI_add _ _) ?_
                  refine lv_lload hx hb d_Mo_takesTooMuch_167 (lv_at hl 0 rfl) ?_
                  refine lv_l2i (v := nI (f2 (j + t) + 0 + y2)) hx hb d_Mo_takesTooMuch_169 (lN_i _) ?_
                  refine lv_ldc (v := 1073741823) hx hb hown (hA_ hts lk_Mo_132) d_Mo_takesTooMuch_170 ?_
                  refine nw_iand (v := nI ((f2 (j + t) + 0 + y2) % 1073741824)) hx hb d_Mo_takesTooMuch_172 (nI_mask _) ?_
                  refine mw_sW hx hb hKW.1 hP hD hS (i := 13) (by omega) (j := j + t) (by omega) d_Mo_takesTooMuch_173 (fun H locs hP hD hS => ?_)
                  rw [st_qW, st_mW] at hP hD
                  refine lv_lload hx hb d_Mo_takesTooMuch_174 (lv_at hl 0 rfl) ?_
                  refine lv_bipush (v := nI (30)) hx hb d_Mo_takesTooMuch_176 (by decide) ?_
                  refine lv_lshr (v := lN ((f2 (j + t) + 0 + y2) / 1073741824)) hx hb d_Mo_takesTooMuch_178 (lN_sr30 (by omega)) ?_
                  refine lv_lstore (lv' := [(5, .long (lN ((f2 (j + t) + 0 + y2) / 1073741824))), (9, .long (lN (f2 (j + t) + 0 + y2))), (8, .int (nI (t))), (7, .int (nI (bk))), (0, .ref (ad 0)), (1, .long (lN (x))), (3, .int (nI (j))), (4, .int (nI (n)))]) hx hb d_Mo_takesTooMuch_179 hl (by decide) rfl (fun ls hl => ?_)
                  refine lv_lload hx hb d_Mo_takesTooMuch_181 (lv_at hl 0 rfl) ?_
                  refine lv_l2i (v := nI ((f2 (j + t) + 0 + y2) / 1073741824)) hx hb d_Mo_takesTooMuch_183 (lN_i _) ?_
                  refine lv_istore (lv' := [(7, .int (nI ((f2 (j + t) + 0 + y2) / 1073741824))), (5, .long (lN ((f2 (j + t) + 0 + y2) / 1073741824))), (9, .long (lN (f2 (j + t) + 0 + y2))), (8, .int (nI (t))), (0, .ref (ad 0)), (1, .long (lN (x))), (3, .int (nI (j))), (4, .int (nI (n)))]) hx hb d_Mo_takesTooMuch_184 hl (by decide) rfl (fun ls hl => ?_)
                  refine lv_iinc (v := nI (t + 1)) (lv' := [(8, .int (nI (t + 1))), (7, .int (nI ((f2 (j + t) + 0 + y2) / 1073741824))), (5, .long (lN ((f2 (j + t) + 0 + y2) / 1073741824))), (9, .long (lN (f2 (j + t) + 0 + y2))), (0, .ref (ad 0)), (1, .long (lN (x))), (3, .int (nI (j))), (4, .int (nI (n)))]) hx hb d_Mo_takesTooMuch_186 hl (k := 3) rfl (nI_add _ 1) (by decide) rfl (fun ls hl => ?_)
                  refine lv_goto (tgt := 106) hx hb d_Mo_takesTooMuch_189 (by decide) ?_
                  exact ih2 (t + 1) _ _ _ H locs ls (by omega) (by omega) (by omega) (upM_B hB2 (p3_mod _)) (tb_step (d := 0) hinv2 (uM_ge' c130) (by rw [hk9]; omega)) (tt_keep hk2) hP hD hS (lv_sub hl [0, 2, 1, 4, 5, 6, 7] rfl)
                · skip
                  have c130 : ¬ (n ≤ t) := fun h => c130 ((nI_leI (by omega) (by omega)).mpr h)
                  have hS9 : f2 (j + t) + x * mW w 14 t + y2 < 2 ^ 62 := by omega
                  refine lv_lload_n hx hb d_Mo_takesTooMuch_133 rfl (lv_at hl 4 rfl) ?_
                  refine lv_aload_n hx hb d_Mo_takesTooMuch_134 rfl (lv_at hl 3 rfl) ?_
                  refine mw_gF5 hx hb hts hown hKW.1 hP lf_Mo_31 d_Mo_takesTooMuch_135 ?_
                  refine mw_gW hx hb hts hown hKW.1 hP (i := 14) (by omega) lf_Mo_118 d_Mo_takesTooMuch_138 ?_
                  refine lv_iload hx hb d_Mo_takesTooMuch_141 (lv_at hl 0 rfl) ?_
                  refine mw_lW hx hb hKW.1 hP (i := 14) (by omega) (j := t) (by omega) (x := mW w 14 t) (by rw [st_mWn _ _ _ (by omega)]) d_Mo_takesTooMuch_143 ?_
                  refine lv_i2l (v := lN (mW w 14 t)) hx hb d_Mo_takesTooMuch_144 (nI_l (by omega)) ?_
                  refine nw_lmul (v := lN (x * (mW w 14 t))) hx hb d_Mo_takesTooMuch_145 (lN_mul _ _) ?_
                  refine lv_goto (tgt := 150) hx hb d_Mo_takesTooMuch_146 (by decide) ?_
                  refine nw_ladd (v := lN (f2 (j + t) + (x * (mW w 14 t)))) hx hb d_Mo_takesTooMuch_150 (lN_add _ _) ?_
                  refine lv_lload hx hb d_Mo_takesTooMuch_151 (lv_at hl 1 rfl) ?_
                  refine nw_ladd (v := lN (f2 (j + t) + (x * (mW w 14 t)) + y2)) hx hb d_Mo_takesTooMuch_153 (lN_add _ _) ?_
                  refine lv_lstore (lv' := [(9, .long (lN (f2 (j + t) + (x * (mW w 14 t)) + y2))), (8, .int (nI (t))), (5, .long (lN (y2))), (7, .int (nI (bk))), (0, .ref (ad 0)), (1, .long (lN (x))), (3, .int (nI (j))), (4, .int (nI (n)))]) hx hb d_Mo_takesTooMuch_154 hl (by decide) rfl (fun ls hl => ?_)
                  refine lv_aload_n hx hb d_Mo_takesTooMuch_156 rfl (lv_at hl 4 rfl) ?_
                  refine mw_gF4 hx hb hts hown hKW.1 hP lf_Mo_28 d_Mo_takesTooMuch_157 ?_
                  refine mw_gW hx hb hts hown hKW.1 hP (i := 13) (by omega) lf_Mo_118 d_Mo_takesTooMuch_160 ?_
                  refine lv_iload_n hx hb d_Mo_takesTooMuch_163 rfl (lv_at hl 6 rfl) ?_
                  refine lv_iload hx hb d_Mo_takesTooMuch_164 (lv_at hl 1 rfl) ?_
                  refine nw_iadd (v := nI (j + t)) hx hb d_Mo_takesTooMuch_166 (nI_add _ _) ?_
                  refine lv_lload hx hb d_Mo_takesTooMuch_167 (lv_at hl 0 rfl) ?_
                  refine lv_l2i (v := nI (f2 (j + t) + (x * (mW w 14 t)) + y2)) hx hb d_Mo_takesTooMuch_169 (lN_i _) ?_
                  refine lv_ldc (v := 1073741823) hx hb hown (hA_ hts lk_Mo_132) d_Mo_takesTooMuch_170 ?_
                  refine nw_iand (v := nI ((f2 (j + t) + (x * (mW w 14 t)) + y2) % 1073741824)) hx hb d_Mo_takesTooMuch_172 (nI_mask _) ?_
                  refine mw_sW hx hb hKW.1 hP hD hS (i := 13) (by omega) (j := j + t) (by omega) d_Mo_takesTooMuch_173 (fun H locs hP hD hS => ?_)
                  rw [st_qW, st_mW] at hP hD
                  refine lv_lload hx hb d_Mo_takesTooMuch_174 (lv_at hl 0 rfl) ?_
                  refine lv_bipush (v := nI (30)) hx hb d_Mo_takesTooMuch_176 (by decide) ?_
                  refine lv_lshr (v := lN ((f2 (j + t) + (x * (mW w 14 t)) + y2) / 1073741824)) hx hb d_Mo_takesTooMuch_178 (lN_sr30 (by omega)) ?_
                  refine lv_lstore (lv' := [(5, .long (lN ((f2 (j + t) + (x * (mW w 14 t)) + y2) / 1073741824))), (9, .long (lN (f2 (j + t) + (x * (mW w 14 t)) + y2))), (8, .int (nI (t))), (7, .int (nI (bk))), (0, .ref (ad 0)), (1, .long (lN (x))), (3, .int (nI (j))), (4, .int (nI (n)))]) hx hb d_Mo_takesTooMuch_179 hl (by decide) rfl (fun ls hl => ?_)
                  refine lv_lload hx hb d_Mo_takesTooMuch_181 (lv_at hl 0 rfl) ?_
                  refine lv_l2i (v := nI ((f2 (j + t) + (x * (mW w 14 t)) + y2) / 1073741824)) hx hb d_Mo_takesTooMuch_183 (lN_i _) ?_
                  refine lv_istore (lv' := [(7, .int (nI ((f2 (j + t) + (x * (mW w 14 t)) + y2) / 1073741824))), (5, .long (lN ((f2 (j + t) + (x * (mW w 14 t)) + y2) / 1073741824))), (9, .long (lN (f2 (j + t) + (x * (mW w 14 t)) + y2))), (8, .int (nI (t))), (0, .ref (ad 0)), (1, .long (lN (x))), (3, .int (nI (j))), (4, .int (nI (n)))]) hx hb d_Mo_takesTooMuch_184 hl (by decide) rfl (fun ls hl => ?_)
                  refine lv_iinc (v := nI (t + 1)) (lv' := [(8, .int (nI (t + 1))), (7, .int (nI ((f2 (j + t) + (x * (mW w 14 t)) + y2) / 1073741824))), (5, .long (lN ((f2 (j + t) + (x * (mW w 14 t)) + y2) / 1073741824))), (9, .long (lN (f2 (j + t) + (x * (mW w 14 t)) + y2))), (0, .ref (ad 0)), (1, .long (lN (x))), (3, .int (nI (j))), (4, .int (nI (n)))]) hx hb d_Mo_takesTooMuch_186 hl (k := 3) rfl (nI_add _ 1) (by decide) rfl (fun ls hl => ?_)
                  refine lv_goto (tgt := 106) hx hb d_Mo_takesTooMuch_189 (by decide) ?_
                  exact ih2 (t + 1) _ _ _ H locs ls (by omega) (by omega) (by omega) (upM_B hB2 (p3_mod _)) (tb_step (d := mW w 14 t) hinv2 (uM_lt' (by omega) rfl) (by rw [hk9])) (tt_keep hk2) hP hD hS (lv_sub hl [0, 2, 1, 4, 5, 6, 7] rfl)
          exact back (n + 1) 0 0 0 f _ _ ls (by omega) (by omega) (by omega) hB (by rw [uM_0, uV_0]; omega) (fun _ _ => rfl) hP hD hS (lv_sub hl [0, 1, 2, 3, 4, 5, 6] rfl)
        · skip
          have c92 : y = 0 := (lN_eqI (by omega) (by omega)).mp ((lg_cmp_eq _ _).mp c92)
          refine lv_iconst (v := nI (0)) hx hb d_Mo_takesTooMuch_95 (by decide) ?_
          rw [c92, Nat.zero_mul, Nat.add_zero] at hinv
          exact W.zret (v := nI (0)) hx hb hr (by decide) (fun t ht hW => ⟨⟨_, st w 13 f (mL w 13), rfl, ⟨f, rfl, hB, hk, Or.inl ⟨rfl, hinv⟩⟩, BM_of ht hP⟩, hS.F ht⟩) hS.2.2 d_Mo_takesTooMuch_96
      · skip
        have c10 : ¬ (n < t) := fun h => c10 ((nI_ltI (by omega) (by omega)).mpr h)
        omega
    | succ q ih =>
      intro t y f H locs ls hj hy hB hinv hk hP hD hS hl
      refine lv_iload hx hb d_Mo_takesTooMuch_6 (lv_at hl 0 rfl) ?_
      refine lv_iload hx hb d_Mo_takesTooMuch_8 (lv_at hl 5 rfl) ?_
      refine lv_icmp_gt (tgt := 88) hx hb d_Mo_takesTooMuch_10 (by decide) (fun c10 => ?_) (fun c10 => ?_)
      · skip
        have c10 : n < t := (nI_ltI (by omega) (by omega)).mp c10
        omega
      · skip
        have c10 : ¬ (n < t) := fun h => c10 ((nI_ltI (by omega) (by omega)).mpr h)
        have hf9 := hB (j + t)
        have hd9 := h3 14 t
        have hk9 := hk (j + t) (by omega)
        refine lv_aload_n hx hb d_Mo_takesTooMuch_13 rfl (lv_at hl 2 rfl) ?_
        refine mw_gF4 hx hb hts hown hKW.1 hP lf_Mo_28 d_Mo_takesTooMuch_14 ?_
        refine mw_gW hx hb hts hown hKW.1 hP (i := 13) (by omega) lf_Mo_118 d_Mo_takesTooMuch_17 ?_
        refine lv_iload_n hx hb d_Mo_takesTooMuch_20 rfl (lv_at hl 4 rfl) ?_
        refine lv_iload hx hb d_Mo_takesTooMuch_21 (lv_at hl 0 rfl) ?_
        refine nw_iadd (v := nI (j + t)) hx hb d_Mo_takesTooMuch_23 (nI_add _ _) ?_
        refine mw_lW hx hb hKW.1 hP (i := 13) (by omega) (j := j + t) (by omega) (x := f (j + t)) (by rw [st_mW]) d_Mo_takesTooMuch_24 ?_
        refine lv_i2l (v := lN (f (j + t))) hx hb d_Mo_takesTooMuch_25 (nI_l (by omega)) ?_
        refine lv_iload hx hb d_Mo_takesTooMuch_26 (lv_at hl 0 rfl) ?_
        refine lv_iload hx hb d_Mo_takesTooMuch_28 (lv_at hl 5 rfl) ?_
        refine lv_icmp_ge (tgt := 49) hx hb d_Mo_takesTooMuch_30 (by decide) (fun c30 => ?_) (fun c30 => ?_)
        · skip
          have c30 : n ≤ t := (nI_leI (by omega) (by omega)).mp c30
          obtain ⟨r9, y9, hr9, hs9, hm9, hc9⟩ := tt_sub (r := f (j + t)) (Z := 0 + y) hf9 (by omega)
          have hy9 : y9 < 1073741824 := by omega
          refine lv_lconst (v := lN (0)) hx hb d_Mo_takesTooMuch_49 (by decide) ?_
          refine nw_lsub (v := lN (f (j + t)) - lN (0)) hx hb d_Mo_takesTooMuch_50 rfl ?_
          refine lv_lload hx hb d_Mo_takesTooMuch_51 (lv_at hl 1 rfl) ?_
          refine nw_lsub (v := lZ ((f (j + t) : Int) - ((0 + y : Nat) : Int))) hx hb d_Mo_takesTooMuch_53 tt_z ?_
          refine lv_lstore (lv' := [(8, .long (lZ ((f (j + t) : Int) - ((0 + y : Nat) : Int)))), (7, .int (nI (t))), (5, .long (lN (y))), (0, .ref (ad 0)), (1, .long (lN (x))), (3, .int (nI (j))), (4, .int (nI (n)))]) hx hb d_Mo_takesTooMuch_54 hl (by decide) rfl (fun ls hl => ?_)
          refine lv_aload_n hx hb d_Mo_takesTooMuch_56 rfl (lv_at hl 3 rfl) ?_
          refine mw_gF4 hx hb hts hown hKW.1 hP lf_Mo_28 d_Mo_takesTooMuch_57 ?_
          refine mw_gW hx hb hts hown hKW.1 hP (i := 13) (by omega) lf_Mo_118 d_Mo_takesTooMuch_60 ?_
          refine lv_iload_n hx hb d_Mo_takesTooMuch_63 rfl (lv_at hl 5 rfl) ?_
          refine lv_iload hx hb d_Mo_takesTooMuch_64 (lv_at hl 1 rfl) ?_
          refine nw_iadd (v := nI (j + t)) hx hb d_Mo_takesTooMuch_66 (nI_add _ _) ?_
          refine lv_lload hx hb d_Mo_takesTooMuch_67 (lv_at hl 0 rfl) ?_
          refine lv_l2i (v := (lZ ((f (j + t) : Int) - ((0 + y : Nat) : Int))).toInt32) hx hb d_Mo_takesTooMuch_69 rfl ?_
          refine lv_ldc (v := 1073741823) hx hb hown (hA_ hts lk_Mo_132) d_Mo_takesTooMuch_70 ?_
          refine nw_iand (v := nI (r9)) hx hb d_Mo_takesTooMuch_72 hm9 ?_
          refine mw_sW hx hb hKW.1 hP hD hS (i := 13) (by omega) (j := j + t) (by omega) d_Mo_takesTooMuch_73 (fun H locs hP hD hS => ?_)
          rw [st_qW, st_mW] at hP hD
          refine lv_lload hx hb d_Mo_takesTooMuch_74 (lv_at hl 0 rfl) ?_
          refine lv_bipush (v := nI (30)) hx hb d_Mo_takesTooMuch_76 (by decide) ?_
          refine lv_lshr (v := (lZ ((f (j + t) : Int) - ((0 + y : Nat) : Int))) >>> ((nI 30).toInt64 &&& 63)) hx hb d_Mo_takesTooMuch_78 rfl ?_
          refine nw_lneg (v := lN (y9)) hx hb d_Mo_takesTooMuch_79 hc9 ?_
          refine lv_lstore (lv' := [(5, .long (lN (y9))), (8, .long (lZ ((f (j + t) : Int) - ((0 + y : Nat) : Int)))), (7, .int (nI (t))), (0, .ref (ad 0)), (1, .long (lN (x))), (3, .int (nI (j))), (4, .int (nI (n)))]) hx hb d_Mo_takesTooMuch_80 hl (by decide) rfl (fun ls hl => ?_)
          refine lv_iinc (v := nI (t + 1)) (lv' := [(7, .int (nI (t + 1))), (5, .long (lN (y9))), (8, .long (lZ ((f (j + t) : Int) - ((0 + y : Nat) : Int)))), (0, .ref (ad 0)), (1, .long (lN (x))), (3, .int (nI (j))), (4, .int (nI (n)))]) hx hb d_Mo_takesTooMuch_82 hl (k := 2) rfl (nI_add _ 1) (by decide) rfl (fun ls hl => ?_)
          refine lv_goto (tgt := 6) hx hb d_Mo_takesTooMuch_85 (by decide) ?_
          exact ih (t + 1) _ _ H locs ls (by omega) hy9 (upM_B hB hr9) (tt_step (d := 0) hinv (uM_ge' c30) (by rw [← hk9]; omega)) (tt_keep hk) hP hD hS (lv_sub hl [0, 1, 3, 4, 5, 6] rfl)
        · skip
          have c30 : ¬ (n ≤ t) := fun h => c30 ((nI_leI (by omega) (by omega)).mpr h)
          obtain ⟨r9, y9, hr9, hs9, hm9, hc9⟩ := tt_sub (r := f (j + t)) (Z := x * mW w 14 t + y) hf9 (tt_bnd hx9 hd9 hy)
          have hy9 : y9 < 1073741824 := tt_carry hx9 hd9 hy hf9 hr9 hs9
          refine lv_lload_n hx hb d_Mo_takesTooMuch_33 rfl (lv_at hl 3 rfl) ?_
          refine lv_aload_n hx hb d_Mo_takesTooMuch_34 rfl (lv_at hl 2 rfl) ?_
          refine mw_gF5 hx hb hts hown hKW.1 hP lf_Mo_31 d_Mo_takesTooMuch_35 ?_
          refine mw_gW hx hb hts hown hKW.1 hP (i := 14) (by omega) lf_Mo_118 d_Mo_takesTooMuch_38 ?_
          refine lv_iload hx hb d_Mo_takesTooMuch_41 (lv_at hl 0 rfl) ?_
          refine mw_lW hx hb hKW.1 hP (i := 14) (by omega) (j := t) (by omega) (x := mW w 14 t) (by rw [st_mWn _ _ _ (by omega)]) d_Mo_takesTooMuch_43 ?_
          refine lv_i2l (v := lN (mW w 14 t)) hx hb d_Mo_takesTooMuch_44 (nI_l (by omega)) ?_
          refine nw_lmul (v := lN (x * (mW w 14 t))) hx hb d_Mo_takesTooMuch_45 (lN_mul _ _) ?_
          refine lv_goto (tgt := 50) hx hb d_Mo_takesTooMuch_46 (by decide) ?_
          refine nw_lsub (v := lN (f (j + t)) - lN (x * mW w 14 t)) hx hb d_Mo_takesTooMuch_50 rfl ?_
          refine lv_lload hx hb d_Mo_takesTooMuch_51 (lv_at hl 1 rfl) ?_
          refine nw_lsub (v := lZ ((f (j + t) : Int) - ((x * mW w 14 t + y : Nat) : Int))) hx hb d_Mo_takesTooMuch_53 tt_z ?_
          refine lv_lstore (lv' := [(8, .long (lZ ((f (j + t) : Int) - ((x * mW w 14 t + y : Nat) : Int)))), (7, .int (nI (t))), (5, .long (lN (y))), (0, .ref (ad 0)), (1, .long (lN (x))), (3, .int (nI (j))), (4, .int (nI (n)))]) hx hb d_Mo_takesTooMuch_54 hl (by decide) rfl (fun ls hl => ?_)
          refine lv_aload_n hx hb d_Mo_takesTooMuch_56 rfl (lv_at hl 3 rfl) ?_
          refine mw_gF4 hx hb hts hown hKW.1 hP lf_Mo_28 d_Mo_takesTooMuch_57 ?_
          refine mw_gW hx hb hts hown hKW.1 hP (i := 13) (by omega) lf_Mo_118 d_Mo_takesTooMuch_60 ?_
          refine lv_iload_n hx hb d_Mo_takesTooMuch_63 rfl (lv_at hl 5 rfl) ?_
          refine lv_iload hx hb d_Mo_takesTooMuch_64 (lv_at hl 1 rfl) ?_
          refine nw_iadd (v := nI (j + t)) hx hb d_Mo_takesTooMuch_66 (nI_add _ _) ?_
          refine lv_lload hx hb d_Mo_takesTooMuch_67 (lv_at hl 0 rfl) ?_
          refine lv_l2i (v := (lZ ((f (j + t) : Int) - ((x * mW w 14 t + y : Nat) : Int))).toInt32) hx hb d_Mo_takesTooMuch_69 rfl ?_
          refine lv_ldc (v := 1073741823) hx hb hown (hA_ hts lk_Mo_132) d_Mo_takesTooMuch_70 ?_
          refine nw_iand (v := nI (r9)) hx hb d_Mo_takesTooMuch_72 hm9 ?_
          refine mw_sW hx hb hKW.1 hP hD hS (i := 13) (by omega) (j := j + t) (by omega) d_Mo_takesTooMuch_73 (fun H locs hP hD hS => ?_)
          rw [st_qW, st_mW] at hP hD
          refine lv_lload hx hb d_Mo_takesTooMuch_74 (lv_at hl 0 rfl) ?_
          refine lv_bipush (v := nI (30)) hx hb d_Mo_takesTooMuch_76 (by decide) ?_
          refine lv_lshr (v := (lZ ((f (j + t) : Int) - ((x * mW w 14 t + y : Nat) : Int))) >>> ((nI 30).toInt64 &&& 63)) hx hb d_Mo_takesTooMuch_78 rfl ?_
          refine nw_lneg (v := lN (y9)) hx hb d_Mo_takesTooMuch_79 hc9 ?_
          refine lv_lstore (lv' := [(5, .long (lN (y9))), (8, .long (lZ ((f (j + t) : Int) - ((x * mW w 14 t + y : Nat) : Int)))), (7, .int (nI (t))), (0, .ref (ad 0)), (1, .long (lN (x))), (3, .int (nI (j))), (4, .int (nI (n)))]) hx hb d_Mo_takesTooMuch_80 hl (by decide) rfl (fun ls hl => ?_)
          refine lv_iinc (v := nI (t + 1)) (lv' := [(7, .int (nI (t + 1))), (5, .long (lN (y9))), (8, .long (lZ ((f (j + t) : Int) - ((x * mW w 14 t + y : Nat) : Int)))), (0, .ref (ad 0)), (1, .long (lN (x))), (3, .int (nI (j))), (4, .int (nI (n)))]) hx hb d_Mo_takesTooMuch_82 hl (k := 2) rfl (nI_add _ 1) (by decide) rfl (fun ls hl => ?_)
          refine lv_goto (tgt := 6) hx hb d_Mo_takesTooMuch_85 (by decide) ?_
          exact ih (t + 1) _ _ H locs ls (by omega) hy9 (upM_B hB hr9) (tt_step (d := mW w 14 t) hinv (uM_lt' (by omega) rfl) (by rw [← hk9]; omega)) (tt_keep hk) hP hD hS (lv_sub hl [0, 1, 3, 4, 5, 6] rfl)
  exact loop (n + 1) 0 0 _ _ _ ls (by omega) (by omega) (h3 13) (by simp [uM_0, uV_0]) (fun _ _ => rfl) (by rw [st_self]; exact hP) (by rw [st_self]; exact hD) hS (lv_sub hl [0, 1, 2, 3, 4, 5] rfl)

/-! THE FACE: writeDigits, feedWord (rows laid by wip/whole/gen/c_lw4.py) -/
set_option maxHeartbeats 4000000 in
set_option maxRecDepth 100000 in
/-- writeDigits(count, base, digits) -/
theorem c_Lw_writeDigits (l : Launch) {D : va_G} {cI cB cR : ClassId} {ad : Nat → Nat} (w : St) (sz : Nat) {cnt b d v n : Nat} (hc : cnt ≤ 20000) (h2 : 2 ≤ b) (hb9 : b ≤ 36) (hd1 : 1 ≤ d) (hd9 : d ≤ 31) (hbd : b ^ d ≤ 2147483647) (hn : n ≤ 4800) (hcd : cnt ≤ n * d) (hpc : ∀ j, j < n → sP w j = nI (v / (b ^ d) ^ j % b ^ d)) : Met l y_Lw_writeDigits (q_Lw_writeDigits :: wA) { frames := 0, cells := 0, slots := 0, locals := 0 } (va_Pc [.ref (ad 0), .int (nI (cnt)), .int (nI (b)), .int (nI (d))] (PW D cI cB cR ad w sz)) (va_Qv (fun w1 : St => ∃ f : Nat → Int32, w1 = pO w f ∧ ∀ j, j < cnt → f j = chr9 (v / b ^ (cnt - 1 - j) % b)) (BW D cI cB cR ad) (AA ad sz)) 0 0 (AA ad sz) := by
  refine Met.ofW (cc := b_Lw_writeDigits) (maxL := 7) (ret := none) (by decide) rfl ?_
  intro p e s m args below meth c s₁ B hml hv
  obtain ⟨rfl, hsz, hP, hD0, hKW⟩ := hv
  have hx := B.exec
  have hb := B.bytes
  have hr := B.returns
  have hts := atoms_spec (ws := q_Lw_writeDigits :: wA) B.pre
  have hown : s.vm.findClass R_Lw = some m.cls := findClass_of_methodNamed B.named
  have hlocks := B.notSynchronized
  subst hsz
  have hD := NC_AA (sz := s.heap.size) hD0
  have hS : va_S (AA ad s.heap.size) s.heap s.heap [] := va_S.rf
  have hl := lv_entry ([.ref (ad 0), .int (nI (cnt)), .int (nI (b)), .int (nI (d))]) (n := 7) (Nat.le_of_ble_eq_true rfl)
  rw [lg_entry_eq]
  generalize (lg_sl ([.ref (ad 0), .int (nI (cnt)), .int (nI (b)), .int (nI (d))]) ++ List.replicate (7 - (lg_sl ([.ref (ad 0), .int (nI (cnt)), .int (nI (b)), .int (nI (d))])).length) Slot.unset).toArray = ls at hl ⊢
  have hl : lv_has ls 7 [(0, .ref (ad 0)), (1, .int (nI (cnt))), (2, .int (nI (b))), (3, .int (nI (d)))] := hl
  refine lv_iconst (v := nI (0)) hx hb d_Lw_writeDigits_0 (by decide) ?_
  refine lv_istore (lv' := [(4, .int (nI (0))), (0, .ref (ad 0)), (1, .int (nI (cnt))), (2, .int (nI (b))), (3, .int (nI (d)))]) hx hb d_Lw_writeDigits_1 hl (by decide) rfl (fun ls hl => ?_)
  refine lv_iconst (v := nI (0)) hx hb d_Lw_writeDigits_3 (by decide) ?_
  refine lv_istore (lv' := [(5, .int (nI (0))), (4, .int (nI (0))), (0, .ref (ad 0)), (1, .int (nI (cnt))), (2, .int (nI (b))), (3, .int (nI (d)))]) hx hb d_Lw_writeDigits_4 hl (by decide) rfl (fun ls hl => ?_)
  have hbp : 0 < b ^ d := Nat.pow_pos (by omega)
  have loop : ∀ (mm i pc9 d6 : Nat) (f : Nat → Int32) (H : Heap) (locs : List Loc) (ls : Array Slot), i + mm = cnt → (¬ i % d = 0 → pc9 = v / (b ^ d) ^ (i / d) % b ^ d / b ^ (i % d)) → pc9 ≤ 2147483647 → (∀ j, j < i → f (cnt - 1 - j) = chr9 (v / b ^ j % b)) → va_P D clA (NC cI cB cR ad (pO w f)) H → va_D (AA ad s.heap.size) (NC cI cB cR ad (pO w f)) → va_S (AA ad s.heap.size) s.heap H locs → lv_has ls 7 [(5, .int (nI (i))), (4, .int (nI (pc9))), (0, .ref (ad 0)), (1, .int (nI (cnt))), (2, .int (nI (b))), (3, .int (nI (d)))] → W p l e (headSpec (q_Lw_writeDigits :: wA) { frames := 0, cells := 0, slots := 0, locals := 0 }).room s m ([.ref (ad 0), .int (nI (cnt)), .int (nI (b)), .int (nI (d))] : List Value).toArray below meth c H locs 0 0 (MQ below (va_Qv (fun w1 : St => ∃ f : Nat → Int32, w1 = pO w f ∧ ∀ j, j < cnt → f j = chr9 (v / b ^ (cnt - 1 - j) % b)) (BW D cI cB cR ad) (AA ad s.heap.size)) ([.ref (ad 0), .int (nI (cnt)), .int (nI (b)), .int (nI (d))] : List Value).toArray s 0 0 (AA ad s.heap.size)) (F0 m 6 ls []) := by
    intro mm
    induction mm with
    | zero =>
      intro i pc9 d6 f H locs ls hi hpv hpl hf hP hD hS hl
      refine lv_iload hx hb d_Lw_writeDigits_6 (lv_at hl 0 rfl) ?_
      refine lv_iload_n hx hb d_Lw_writeDigits_8 rfl (lv_at hl 3 rfl) ?_
      refine lv_icmp_ge (tgt := 83) hx hb d_Lw_writeDigits_9 (by decide) (fun c9 => ?_) (fun c9 => ?_)
      · skip
        have c9 : cnt ≤ i := (nI_leI (by omega) (by omega)).mp c9
        exact W.vret hx hb hr (fun t ht hW => ⟨⟨pO w f, rfl, ⟨f, rfl, fun j hj => by have := hf (cnt - 1 - j) (by omega); rw [show cnt - 1 - (cnt - 1 - j) = j by omega] at this; exact this⟩, BW_of ht hP⟩, hS.F ht⟩) hS.2.2 d_Lw_writeDigits_83
      · exact absurd (nI_le (by omega) (by omega)) c9
    | succ mm ih =>
      intro i pc9 d6 f H locs ls hi hpv hpl hf hP hD hS hl
      refine lv_iload hx hb d_Lw_writeDigits_6 (lv_at hl 0 rfl) ?_
      refine lv_iload_n hx hb d_Lw_writeDigits_8 rfl (lv_at hl 3 rfl) ?_
      refine lv_icmp_ge (tgt := 83) hx hb d_Lw_writeDigits_9 (by decide) (fun c9 => ?_) (fun c9 => ?_)
      · exact absurd c9 (nI_ge (by omega) (by omega))
      · skip
        have hmd := Nat.mod_lt i hd1
        have hid : i / d < n := (Nat.div_lt_iff_lt_mul hd1).mpr (by omega)
        have hpx := hpc (i / d) hid
        have hxl := Nat.mod_lt (v / (b ^ d) ^ (i / d)) hbp
        have hdp := dig_pc (v := v) (i := i) h2 hd1
        have hdm := Nat.div_add_mod i d
        obtain ⟨md, hmd9⟩ : ∃ md, md = i % d := ⟨_, rfl⟩
        obtain ⟨qd, hqd9⟩ : ∃ qd, qd = i / d := ⟨_, rfl⟩
        obtain ⟨X9, hX9⟩ : ∃ X9, X9 = v / (b ^ d) ^ (i / d) % b ^ d := ⟨_, rfl⟩
        rw [← hX9] at hpx hxl hdp hpv
        rw [← hqd9] at hpx hid hdm
        rw [← hmd9] at hmd hdp hpv hdm
        have rest : ∀ (pc8 : Nat) (ls : Array Slot), pc8 = X9 / b ^ md → pc8 ≤ 2147483647 → lv_has ls 7 [(5, .int (nI (i))), (4, .int (nI (pc8))), (0, .ref (ad 0)), (1, .int (nI (cnt))), (2, .int (nI (b))), (3, .int (nI (d)))] → W p l e (headSpec (q_Lw_writeDigits :: wA) { frames := 0, cells := 0, slots := 0, locals := 0 }).room s m ([.ref (ad 0), .int (nI (cnt)), .int (nI (b)), .int (nI (d))] : List Value).toArray below meth c H locs 0 0 (MQ below (va_Qv (fun w1 : St => ∃ f : Nat → Int32, w1 = pO w f ∧ ∀ j, j < cnt → f j = chr9 (v / b ^ (cnt - 1 - j) % b)) (BW D cI cB cR ad) (AA ad s.heap.size)) ([.ref (ad 0), .int (nI (cnt)), .int (nI (b)), .int (nI (d))] : List Value).toArray s 0 0 (AA ad s.heap.size)) (F0 m 30 ls []) := by
          intro pc8 ls hp8 hp8l hl
          rw [← hp8] at hdp
          have hdl := Nat.mod_lt pc8 (show 0 < b by omega)
          have hql := Nat.div_le_self pc8 b
          refine lv_iload hx hb d_Lw_writeDigits_30 (lv_at hl 1 rfl) ?_
          refine lv_iload_n hx hb d_Lw_writeDigits_32 rfl (lv_at hl 4 rfl) ?_
          refine nw_irem (v := nI (pc8 % b)) hx hb d_Lw_writeDigits_33 (nI_ne0 (by omega) (by omega)) (pk_rem (by omega) (by omega) (by omega)) ?_
          obtain ⟨dg9, hdg9⟩ : ∃ dg9, dg9 = pc8 % b := ⟨_, rfl⟩
          rw [← hdg9] at hdl hdp ⊢
          refine lv_istore (lv' := [(6, .int (nI (dg9))), (5, .int (nI (i))), (4, .int (nI (pc8))), (0, .ref (ad 0)), (1, .int (nI (cnt))), (2, .int (nI (b))), (3, .int (nI (d)))]) hx hb d_Lw_writeDigits_34 hl (by decide) rfl (fun ls hl => ?_)
          refine lv_iload hx hb d_Lw_writeDigits_36 (lv_at hl 2 rfl) ?_
          refine lv_iload_n hx hb d_Lw_writeDigits_38 rfl (lv_at hl 5 rfl) ?_
          refine nw_idiv (v := nI (pc8 / b)) hx hb d_Lw_writeDigits_39 (nI_ne0 (by omega) (by omega)) (pk_div (by omega) (by omega) (by omega)) ?_
          obtain ⟨nx9, hnx9⟩ : ∃ nx9, nx9 = pc8 / b := ⟨_, rfl⟩
          rw [← hnx9] at hql ⊢
          refine lv_istore (lv' := [(4, .int (nI (nx9))), (6, .int (nI (dg9))), (5, .int (nI (i))), (0, .ref (ad 0)), (1, .int (nI (cnt))), (2, .int (nI (b))), (3, .int (nI (d)))]) hx hb d_Lw_writeDigits_40 hl (by decide) rfl (fun ls hl => ?_)
          refine lv_aload_n hx hb d_Lw_writeDigits_42 rfl (lv_at hl 3 rfl) ?_
          refine nw_gF6 hx hb hts hown hKW.1 hP lf_Lw_42 d_Lw_writeDigits_43 ?_
          refine lv_iload_n hx hb d_Lw_writeDigits_46 rfl (lv_at hl 4 rfl) ?_
          refine lv_iconst (v := nI (1)) hx hb d_Lw_writeDigits_47 (by decide) ?_
          refine nw_isub (v := nI (cnt - 1)) hx hb d_Lw_writeDigits_48 (pk_sub (by omega)) ?_
          refine lv_iload hx hb d_Lw_writeDigits_49 (lv_at hl 2 rfl) ?_
          refine nw_isub (v := nI (cnt - 1 - i)) hx hb d_Lw_writeDigits_51 (pk_sub (by omega)) ?_
          refine lv_iload hx hb d_Lw_writeDigits_52 (lv_at hl 1 rfl) ?_
          refine lv_bipush (v := nI (10)) hx hb d_Lw_writeDigits_54 (by decide) ?_
          refine lv_icmp_ge (tgt := 67) hx hb d_Lw_writeDigits_56 (by decide) (fun c56 => ?_) (fun c56 => ?_)
          · skip
            have c56 : 10 ≤ dg9 := (nI_leI (by omega) (by omega)).mp c56
            refine lv_bipush (v := nI (97)) hx hb d_Lw_writeDigits_67 (by decide) ?_
            refine lv_iload hx hb d_Lw_writeDigits_69 (lv_at hl 1 rfl) ?_
            refine nw_iadd (v := nI (97 + dg9)) hx hb d_Lw_writeDigits_71 (nI_add _ _) ?_
            refine lv_bipush (v := nI (10)) hx hb d_Lw_writeDigits_72 (by decide) ?_
            refine nw_isub (v := nI (97 + dg9 - 10)) hx hb d_Lw_writeDigits_74 (pk_sub (by omega)) ?_
            have hch : vp_nar .byte (nI (97 + dg9 - 10)).toInt8.toInt32 = chr9 (v / b ^ i % b) := by
              rw [← hdp]
              unfold chr9
              rw [if_neg (by omega), show 97 + dg9 - 10 = 87 + dg9 by omega]
              exact nar_nI _ (by omega)
            refine lv_i2b (v := (nI (97 + dg9 - 10)).toInt8.toInt32) hx hb d_Lw_writeDigits_75 rfl ?_
            refine nw_sO hx hb hKW.1 hP hD hS (j := cnt - 1 - i) (by omega) d_Lw_writeDigits_76 (fun H locs hP hD hS => ?_)
            refine lv_iinc (v := nI (i + 1)) (lv' := [(5, .int (nI (i + 1))), (4, .int (nI (nx9))), (6, .int (nI (dg9))), (0, .ref (ad 0)), (1, .int (nI (cnt))), (2, .int (nI (b))), (3, .int (nI (d)))]) hx hb d_Lw_writeDigits_77 hl (k := 2) rfl (nI_add _ 1) (by decide) rfl (fun ls hl => ?_)
            refine lv_goto (tgt := 6) hx hb d_Lw_writeDigits_80 (by decide) ?_
            exact ih (i + 1) nx9 0 _ H locs ls (by omega) (fun h => by
              have h8 : (i + 1) % d = md + 1 ∧ (i + 1) / d = qd := by
                rcases Nat.lt_or_ge (md + 1) d with q | q
                · have e : i + 1 = (md + 1) + d * qd := by omega
                  rw [e, Nat.add_mul_mod_self_left, Nat.mod_eq_of_lt q, Nat.add_mul_div_left _ _ hd1, Nat.div_eq_of_lt q, Nat.zero_add]
                  exact ⟨rfl, rfl⟩
                · exfalso
                  have e : i + 1 = 0 + d * (qd + 1) := by rw [Nat.mul_add]; omega
                  rw [e, Nat.add_mul_mod_self_left] at h
                  exact h (Nat.zero_mod _)
              rw [h8.1, h8.2, hqd9, ← hX9, Nat.pow_succ, ← Nat.div_div_eq_div_mul, hnx9, hp8]) (by omega) (fun j hj => by
              show upd f (cnt - 1 - i) _ (cnt - 1 - j) = _
              by_cases q : j = i
              · subst q; rw [pk_us]; exact hch
              · rw [pk_un (by omega)]; exact hf j (by omega)) hP hD hS (lv_sub hl [0, 1, 3, 4, 5, 6] rfl)
          · skip
            have c56 : ¬ (10 ≤ dg9) := fun h => c56 ((nI_leI (by omega) (by omega)).mpr h)
            have c56 : dg9 < 10 := by omega
            refine lv_bipush (v := nI (48)) hx hb d_Lw_writeDigits_59 (by decide) ?_
            refine lv_iload hx hb d_Lw_writeDigits_61 (lv_at hl 1 rfl) ?_
            refine nw_iadd (v := nI (48 + dg9)) hx hb d_Lw_writeDigits_63 (nI_add _ _) ?_
            refine lv_goto (tgt := 75) hx hb d_Lw_writeDigits_64 (by decide) ?_
            have hch : vp_nar .byte (nI (48 + dg9)).toInt8.toInt32 = chr9 (v / b ^ i % b) := by
              rw [← hdp]
              unfold chr9
              rw [if_pos c56]
              exact nar_nI _ (by omega)
            refine lv_i2b (v := (nI (48 + dg9)).toInt8.toInt32) hx hb d_Lw_writeDigits_75 rfl ?_
            refine nw_sO hx hb hKW.1 hP hD hS (j := cnt - 1 - i) (by omega) d_Lw_writeDigits_76 (fun H locs hP hD hS => ?_)
            refine lv_iinc (v := nI (i + 1)) (lv' := [(5, .int (nI (i + 1))), (4, .int (nI (nx9))), (6, .int (nI (dg9))), (0, .ref (ad 0)), (1, .int (nI (cnt))), (2, .int (nI (b))), (3, .int (nI (d)))]) hx hb d_Lw_writeDigits_77 hl (k := 2) rfl (nI_add _ 1) (by decide) rfl (fun ls hl => ?_)
            refine lv_goto (tgt := 6) hx hb d_Lw_writeDigits_80 (by decide) ?_
            exact ih (i + 1) nx9 0 _ H locs ls (by omega) (fun h => by
              have h8 : (i + 1) % d = md + 1 ∧ (i + 1) / d = qd := by
                rcases Nat.lt_or_ge (md + 1) d with q | q
                · have e : i + 1 = (md + 1) + d * qd := by omega
                  rw [e, Nat.add_mul_mod_self_left, Nat.mod_eq_of_lt q, Nat.add_mul_div_left _ _ hd1, Nat.div_eq_of_lt q, Nat.zero_add]
                  exact ⟨rfl, rfl⟩
                · exfalso
                  have e : i + 1 = 0 + d * (qd + 1) := by rw [Nat.mul_add]; omega
                  rw [e, Nat.add_mul_mod_self_left] at h
                  exact h (Nat.zero_mod _)
              rw [h8.1, h8.2, hqd9, ← hX9, Nat.pow_succ, ← Nat.div_div_eq_div_mul, hnx9, hp8]) (by omega) (fun j hj => by
              show upd f (cnt - 1 - i) _ (cnt - 1 - j) = _
              by_cases q : j = i
              · subst q; rw [pk_us]; exact hch
              · rw [pk_un (by omega)]; exact hf j (by omega)) hP hD hS (lv_sub hl [0, 1, 3, 4, 5, 6] rfl)
        refine lv_iload hx hb d_Lw_writeDigits_12 (lv_at hl 0 rfl) ?_
        refine lv_iload_n hx hb d_Lw_writeDigits_14 rfl (lv_at hl 5 rfl) ?_
        refine nw_irem (v := nI (md)) hx hb d_Lw_writeDigits_15 (nI_ne0 (by omega) (by omega)) (by rw [hmd9]; exact pk_rem (by omega) (by omega) (by omega)) ?_
        refine lv_if_ne (tgt := 30) hx hb d_Lw_writeDigits_16 (by decide) (fun c16 => ?_) (fun c16 => ?_)
        · skip
          have c16 : ¬ (md = 0) := fun h => c16 (by have := (nI_eq (by omega) (by omega)).mpr h; rwa [nI_0] at this)
          exact rest pc9 ls (hpv c16) hpl (lv_sub hl [0, 1, 2, 3, 4, 5] rfl)
        · skip
          have c16 : md = 0 := (nI_eq (by omega) (by omega)).mp (by rw [nI_0]; exact c16)
          refine lv_aload_n hx hb d_Lw_writeDigits_19 rfl (lv_at hl 2 rfl) ?_
          refine nw_gF4 hx hb hts hown hKW.1 hP lf_Lw_34 d_Lw_writeDigits_20 ?_
          refine lv_iload hx hb d_Lw_writeDigits_23 (lv_at hl 0 rfl) ?_
          refine lv_iload_n hx hb d_Lw_writeDigits_25 rfl (lv_at hl 5 rfl) ?_
          refine nw_idiv (v := nI (qd)) hx hb d_Lw_writeDigits_26 (nI_ne0 (by omega) (by omega)) (by rw [hqd9]; exact pk_div (by omega) (by omega) (by omega)) ?_
          refine nw_lP hx hb hKW.1 hP (j := qd) (by omega) (x := nI X9) hpx d_Lw_writeDigits_27 ?_
          refine lv_istore (lv' := [(4, .int (nI (X9))), (5, .int (nI (i))), (0, .ref (ad 0)), (1, .int (nI (cnt))), (2, .int (nI (b))), (3, .int (nI (d)))]) hx hb d_Lw_writeDigits_28 hl (by decide) rfl (fun ls hl => ?_)
          exact rest X9 ls (by rw [c16, Nat.pow_zero, Nat.div_one]) (by omega) (lv_sub hl [1, 0, 2, 3, 4, 5] rfl)
  exact loop cnt 0 0 0 (sO w) _ _ ls (by omega) (fun h => absurd (Nat.zero_mod _) h) (by omega) (fun j hj => absurd hj (by omega)) hP hD hS (lv_sub hl [0, 1, 2, 3, 4, 5] rfl)
set_option maxHeartbeats 4000000 in
set_option maxRecDepth 100000 in
/-- feedWord(bytes) -/
theorem c_Lw_feedWord (l : Launch) {D : va_G} {cI cB cR : ClassId} {ad : Nat → Nat} (w : St) (sz : Nat) {n : Nat} (hn : sA w = n) (hn9 : n + 4 ≤ 4096) (x : Int32) : Met l y_Lw_feedWord (q_Lw_feedWord :: wA) { frames := 0, cells := 0, slots := 0, locals := 0 } (va_Pc [.ref (ad 0), .int (x)] (PW D cI cB cR ad w sz)) (va_Qv (fun w1 : St => ∃ f : Nat → Int32, w1 = pA (pT w f) (n + 4) ∧ (∀ j, j < n → f j = sT w j) ∧ ∀ k, k < 4 → f (n + k) = byt x k) (BW D cI cB cR ad) (AA ad sz)) 0 0 (AA ad sz) := by
  refine Met.ofW (cc := b_Lw_feedWord) (maxL := 3) (ret := none) (by decide) rfl ?_
  intro p e s m args below meth c s₁ B hml hv
  obtain ⟨rfl, hsz, hP, hD0, hKW⟩ := hv
  have hx := B.exec
  have hb := B.bytes
  have hr := B.returns
  have hts := atoms_spec (ws := q_Lw_feedWord :: wA) B.pre
  have hown : s.vm.findClass R_Lw = some m.cls := findClass_of_methodNamed B.named
  have hlocks := B.notSynchronized
  subst hsz
  have hD := NC_AA (sz := s.heap.size) hD0
  have hS : va_S (AA ad s.heap.size) s.heap s.heap [] := va_S.rf
  have hl := lv_entry ([.ref (ad 0), .int (x)]) (n := 3) (Nat.le_of_ble_eq_true rfl)
  rw [lg_entry_eq]
  generalize (lg_sl ([.ref (ad 0), .int (x)]) ++ List.replicate (3 - (lg_sl ([.ref (ad 0), .int (x)])).length) Slot.unset).toArray = ls at hl ⊢
  have hl : lv_has ls 3 [(0, .ref (ad 0)), (1, .int (x))] := hl
  refine lv_bipush (v := nI (24)) hx hb d_Lw_feedWord_0 (by decide) ?_
  refine lv_istore_n (lv' := [(2, .int (nI (24))), (0, .ref (ad 0)), (1, .int (x))]) hx hb d_Lw_feedWord_2 rfl hl (by decide) rfl (fun ls hl => ?_)
  refine lv_iload_n hx hb d_Lw_feedWord_3 rfl (lv_at hl 0 rfl) ?_
  refine lv_if_lt (tgt := 36) hx hb d_Lw_feedWord_4 (by decide) (fun z0 => ?_) (fun z0 => ?_)
  · exact absurd z0 (nI_pos (by omega))
  · skip
    refine lv_aload_n hx hb d_Lw_feedWord_7 rfl (lv_at hl 1 rfl) ?_
    refine nw_gF5 hx hb hts hown hKW.1 hP lf_Lw_38 d_Lw_feedWord_8 ?_
    refine lv_aload_n hx hb d_Lw_feedWord_11 rfl (lv_at hl 1 rfl) ?_
    refine nw_gF7 hx hb hts hown hKW.1 hP (n := n) hn lf_Lw_45 d_Lw_feedWord_12 ?_
    refine lv_iload_n hx hb d_Lw_feedWord_15 rfl (lv_at hl 2 rfl) ?_
    refine lv_iload_n hx hb d_Lw_feedWord_16 rfl (lv_at hl 0 rfl) ?_
    refine nw_ishr (v := x >>> (nI 24 &&& 31)) hx hb d_Lw_feedWord_17 rfl ?_
    refine lv_i2b (v := (x >>> (nI 24 &&& 31)).toInt8.toInt32) hx hb d_Lw_feedWord_18 rfl ?_
    refine nw_sT hx hb hKW.1 hP hD hS (j := n) (by omega) d_Lw_feedWord_19 (fun H locs hP hD hS => ?_)
    refine lv_aload_n hx hb d_Lw_feedWord_20 rfl (lv_at hl 1 rfl) ?_
    refine lv_dup hx hb d_Lw_feedWord_21 rfl ?_
    refine nw_gF7 hx hb hts hown hKW.1 hP (n := n) hn lf_Lw_45 d_Lw_feedWord_22 ?_
    refine lv_iconst (v := nI (1)) hx hb d_Lw_feedWord_25 (by decide) ?_
    refine nw_iadd (v := nI (n + 1)) hx hb d_Lw_feedWord_26 (nI_add _ _) ?_
    refine nw_pA hx hb hts hown hKW.1 hP hD hS lf_Lw_45 d_Lw_feedWord_27 (fun H locs hP hD hS => ?_)
    refine lv_iinc (v := nI (16)) (lv' := [(2, .int (nI (16))), (0, .ref (ad 0)), (1, .int (x))]) hx hb d_Lw_feedWord_30 hl (k := 0) rfl (by decide) (by decide) rfl (fun ls hl => ?_)
    refine lv_goto (tgt := 3) hx hb d_Lw_feedWord_33 (by decide) ?_
    have e0 : pA (pT (w) (upd (sT (w)) (n) (vp_nar .byte ((x >>> (nI 24 &&& 31)).toInt8.toInt32)))) (n + 1) = pA (pT (w) (upd (sT (w)) (n) (vp_nar .byte ((x >>> (nI 24 &&& 31)).toInt8.toInt32)))) (n + 1) := by rfl
    refine lv_iload_n hx hb d_Lw_feedWord_3 rfl (lv_at hl 0 rfl) ?_
    refine lv_if_lt (tgt := 36) hx hb d_Lw_feedWord_4 (by decide) (fun z1 => ?_) (fun z1 => ?_)
    · exact absurd z1 (nI_pos (by omega))
    · skip
      refine lv_aload_n hx hb d_Lw_feedWord_7 rfl (lv_at hl 1 rfl) ?_
      refine nw_gF5 hx hb hts hown hKW.1 hP lf_Lw_38 d_Lw_feedWord_8 ?_
      refine lv_aload_n hx hb d_Lw_feedWord_11 rfl (lv_at hl 1 rfl) ?_
      refine nw_gF7 hx hb hts hown hKW.1 hP (n := n + 1) rfl lf_Lw_45 d_Lw_feedWord_12 ?_
      refine lv_iload_n hx hb d_Lw_feedWord_15 rfl (lv_at hl 2 rfl) ?_
      refine lv_iload_n hx hb d_Lw_feedWord_16 rfl (lv_at hl 0 rfl) ?_
      refine nw_ishr (v := x >>> (nI 16 &&& 31)) hx hb d_Lw_feedWord_17 rfl ?_
      refine lv_i2b (v := (x >>> (nI 16 &&& 31)).toInt8.toInt32) hx hb d_Lw_feedWord_18 rfl ?_
      refine nw_sT hx hb hKW.1 hP hD hS (j := n + 1) (by omega) d_Lw_feedWord_19 (fun H locs hP hD hS => ?_)
      refine lv_aload_n hx hb d_Lw_feedWord_20 rfl (lv_at hl 1 rfl) ?_
      refine lv_dup hx hb d_Lw_feedWord_21 rfl ?_
      refine nw_gF7 hx hb hts hown hKW.1 hP (n := n + 1) rfl lf_Lw_45 d_Lw_feedWord_22 ?_
      refine lv_iconst (v := nI (1)) hx hb d_Lw_feedWord_25 (by decide) ?_
      refine nw_iadd (v := nI (n + 1 + 1)) hx hb d_Lw_feedWord_26 (nI_add _ _) ?_
      refine nw_pA hx hb hts hown hKW.1 hP hD hS lf_Lw_45 d_Lw_feedWord_27 (fun H locs hP hD hS => ?_)
      refine lv_iinc (v := nI (8)) (lv' := [(2, .int (nI (8))), (0, .ref (ad 0)), (1, .int (x))]) hx hb d_Lw_feedWord_30 hl (k := 0) rfl (by decide) (by decide) rfl (fun ls hl => ?_)
      refine lv_goto (tgt := 3) hx hb d_Lw_feedWord_33 (by decide) ?_
      have e1 : pA (pT (pA (pT (w) (upd (sT (w)) (n) (vp_nar .byte ((x >>> (nI 24 &&& 31)).toInt8.toInt32)))) (n + 1)) (upd (sT (pA (pT (w) (upd (sT (w)) (n) (vp_nar .byte ((x >>> (nI 24 &&& 31)).toInt8.toInt32)))) (n + 1))) (n + 1) (vp_nar .byte ((x >>> (nI 16 &&& 31)).toInt8.toInt32)))) (n + 1 + 1) = pA (pT (pA (pT (w) (upd (sT (w)) (n) (vp_nar .byte ((x >>> (nI 24 &&& 31)).toInt8.toInt32)))) (n + 1)) (upd (sT (pA (pT (w) (upd (sT (w)) (n) (vp_nar .byte ((x >>> (nI 24 &&& 31)).toInt8.toInt32)))) (n + 1))) (n + 1) (vp_nar .byte ((x >>> (nI 16 &&& 31)).toInt8.toInt32)))) (n + 1 + 1) := by rfl
      refine lv_iload_n hx hb d_Lw_feedWord_3 rfl (lv_at hl 0 rfl) ?_
      refine lv_if_lt (tgt := 36) hx hb d_Lw_feedWord_4 (by decide) (fun z2 => ?_) (fun z2 => ?_)
      · exact absurd z2 (nI_pos (by omega))
      · skip
        refine lv_aload_n hx hb d_Lw_feedWord_7 rfl (lv_at hl 1 rfl) ?_
        refine nw_gF5 hx hb hts hown hKW.1 hP lf_Lw_38 d_Lw_feedWord_8 ?_
        refine lv_aload_n hx hb d_Lw_feedWord_11 rfl (lv_at hl 1 rfl) ?_
        refine nw_gF7 hx hb hts hown hKW.1 hP (n := n + 2) rfl lf_Lw_45 d_Lw_feedWord_12 ?_
        refine lv_iload_n hx hb d_Lw_feedWord_15 rfl (lv_at hl 2 rfl) ?_
        refine lv_iload_n hx hb d_Lw_feedWord_16 rfl (lv_at hl 0 rfl) ?_
        refine nw_ishr (v := x >>> (nI 8 &&& 31)) hx hb d_Lw_feedWord_17 rfl ?_
        refine lv_i2b (v := (x >>> (nI 8 &&& 31)).toInt8.toInt32) hx hb d_Lw_feedWord_18 rfl ?_
        refine nw_sT hx hb hKW.1 hP hD hS (j := n + 2) (by omega) d_Lw_feedWord_19 (fun H locs hP hD hS => ?_)
        refine lv_aload_n hx hb d_Lw_feedWord_20 rfl (lv_at hl 1 rfl) ?_
        refine lv_dup hx hb d_Lw_feedWord_21 rfl ?_
        refine nw_gF7 hx hb hts hown hKW.1 hP (n := n + 2) rfl lf_Lw_45 d_Lw_feedWord_22 ?_
        refine lv_iconst (v := nI (1)) hx hb d_Lw_feedWord_25 (by decide) ?_
        refine nw_iadd (v := nI (n + 2 + 1)) hx hb d_Lw_feedWord_26 (nI_add _ _) ?_
        refine nw_pA hx hb hts hown hKW.1 hP hD hS lf_Lw_45 d_Lw_feedWord_27 (fun H locs hP hD hS => ?_)
        refine lv_iinc (v := nI (0)) (lv' := [(2, .int (nI (0))), (0, .ref (ad 0)), (1, .int (x))]) hx hb d_Lw_feedWord_30 hl (k := 0) rfl (by decide) (by decide) rfl (fun ls hl => ?_)
        refine lv_goto (tgt := 3) hx hb d_Lw_feedWord_33 (by decide) ?_
        have e2 : pA (pT (pA (pT (pA (pT (w) (upd (sT (w)) (n) (vp_nar .byte ((x >>> (nI 24 &&& 31)).toInt8.toInt32)))) (n + 1)) (upd (sT (pA (pT (w) (upd (sT (w)) (n) (vp_nar .byte ((x >>> (nI 24 &&& 31)).toInt8.toInt32)))) (n + 1))) (n + 1) (vp_nar .byte ((x >>> (nI 16 &&& 31)).toInt8.toInt32)))) (n + 1 + 1)) (upd (sT (pA (pT (pA (pT (w) (upd (sT (w)) (n) (vp_nar .byte ((x >>> (nI 24 &&& 31)).toInt8.toInt32)))) (n + 1)) (upd (sT (pA (pT (w) (upd (sT (w)) (n) (vp_nar .byte ((x >>> (nI 24 &&& 31)).toInt8.toInt32)))) (n + 1))) (n + 1) (vp_nar .byte ((x >>> (nI 16 &&& 31)).toInt8.toInt32)))) (n + 1 + 1))) (n + 2) (vp_nar .byte ((x >>> (nI 8 &&& 31)).toInt8.toInt32)))) (n + 2 + 1) = pA (pT (pA (pT (pA (pT (w) (upd (sT (w)) (n) (vp_nar .byte ((x >>> (nI 24 &&& 31)).toInt8.toInt32)))) (n + 1)) (upd (sT (pA (pT (w) (upd (sT (w)) (n) (vp_nar .byte ((x >>> (nI 24 &&& 31)).toInt8.toInt32)))) (n + 1))) (n + 1) (vp_nar .byte ((x >>> (nI 16 &&& 31)).toInt8.toInt32)))) (n + 1 + 1)) (upd (sT (pA (pT (pA (pT (w) (upd (sT (w)) (n) (vp_nar .byte ((x >>> (nI 24 &&& 31)).toInt8.toInt32)))) (n + 1)) (upd (sT (pA (pT (w) (upd (sT (w)) (n) (vp_nar .byte ((x >>> (nI 24 &&& 31)).toInt8.toInt32)))) (n + 1))) (n + 1) (vp_nar .byte ((x >>> (nI 16 &&& 31)).toInt8.toInt32)))) (n + 1 + 1))) (n + 2) (vp_nar .byte ((x >>> (nI 8 &&& 31)).toInt8.toInt32)))) (n + 2 + 1) := by rfl
        refine lv_iload_n hx hb d_Lw_feedWord_3 rfl (lv_at hl 0 rfl) ?_
        refine lv_if_lt (tgt := 36) hx hb d_Lw_feedWord_4 (by decide) (fun z3 => ?_) (fun z3 => ?_)
        · exact absurd z3 (nI_pos (by omega))
        · skip
          refine lv_aload_n hx hb d_Lw_feedWord_7 rfl (lv_at hl 1 rfl) ?_
          refine nw_gF5 hx hb hts hown hKW.1 hP lf_Lw_38 d_Lw_feedWord_8 ?_
          refine lv_aload_n hx hb d_Lw_feedWord_11 rfl (lv_at hl 1 rfl) ?_
          refine nw_gF7 hx hb hts hown hKW.1 hP (n := n + 3) rfl lf_Lw_45 d_Lw_feedWord_12 ?_
          refine lv_iload_n hx hb d_Lw_feedWord_15 rfl (lv_at hl 2 rfl) ?_
          refine lv_iload_n hx hb d_Lw_feedWord_16 rfl (lv_at hl 0 rfl) ?_
          refine nw_ishr (v := x >>> (nI 0 &&& 31)) hx hb d_Lw_feedWord_17 rfl ?_
          refine lv_i2b (v := (x >>> (nI 0 &&& 31)).toInt8.toInt32) hx hb d_Lw_feedWord_18 rfl ?_
          refine nw_sT hx hb hKW.1 hP hD hS (j := n + 3) (by omega) d_Lw_feedWord_19 (fun H locs hP hD hS => ?_)
          refine lv_aload_n hx hb d_Lw_feedWord_20 rfl (lv_at hl 1 rfl) ?_
          refine lv_dup hx hb d_Lw_feedWord_21 rfl ?_
          refine nw_gF7 hx hb hts hown hKW.1 hP (n := n + 3) rfl lf_Lw_45 d_Lw_feedWord_22 ?_
          refine lv_iconst (v := nI (1)) hx hb d_Lw_feedWord_25 (by decide) ?_
          refine nw_iadd (v := nI (n + 3 + 1)) hx hb d_Lw_feedWord_26 (nI_add _ _) ?_
          refine nw_pA hx hb hts hown hKW.1 hP hD hS lf_Lw_45 d_Lw_feedWord_27 (fun H locs hP hD hS => ?_)
          refine lv_iinc (v := -8) (lv' := [(2, .int (-8)), (0, .ref (ad 0)), (1, .int (x))]) hx hb d_Lw_feedWord_30 hl (k := 0) rfl (by decide) (by decide) rfl (fun ls hl => ?_)
          refine lv_goto (tgt := 3) hx hb d_Lw_feedWord_33 (by decide) ?_
          refine lv_iload_n hx hb d_Lw_feedWord_3 rfl (lv_at hl 0 rfl) ?_
          refine lv_if_lt (tgt := 36) hx hb d_Lw_feedWord_4 (by decide) (fun z4 => ?_) (fun z4 => ?_)
          · skip
            obtain ⟨f9, hf9⟩ : ∃ f9, f9 = upd (upd (upd (upd (sT w) n (vp_nar .byte ((x >>> (nI 24 &&& 31)).toInt8.toInt32))) (n + 1) (vp_nar .byte ((x >>> (nI 16 &&& 31)).toInt8.toInt32))) (n + 2) (vp_nar .byte ((x >>> (nI 8 &&& 31)).toInt8.toInt32))) (n + 3) (vp_nar .byte ((x >>> (nI 0 &&& 31)).toInt8.toInt32)) := ⟨_, rfl⟩
            have b0 : f9 (n + 0) = byt x 0 := by rw [hf9, pk_un (by omega), pk_un (by omega), pk_un (by omega)]; show upd (sT w) n _ n = _; rw [pk_us]; exact nar_i2b _
            have b1 : f9 (n + 1) = byt x 1 := by rw [hf9, pk_un (by omega), pk_un (by omega), pk_us]; exact nar_i2b _
            have b2 : f9 (n + 2) = byt x 2 := by rw [hf9, pk_un (by omega), pk_us]; exact nar_i2b _
            have b3 : f9 (n + 3) = byt x 3 := by rw [hf9, pk_us]; exact nar_i2b _
            have bl : ∀ j, j < n → f9 j = sT w j := fun j hj => by rw [hf9, pk_un (by omega), pk_un (by omega), pk_un (by omega), pk_un (by omega)]
            have ba : ∀ k, k < 4 → f9 (n + k) = byt x k := fun k hk => by
              rcases (show k = 0 ∨ k = 1 ∨ k = 2 ∨ k = 3 by omega) with q | q | q | q <;> subst q <;> assumption
            have hP : va_P D clA (NC cI cB cR ad (pA (pT w f9) (n + 4))) H := by rw [hf9]; exact hP
            exact W.vret hx hb hr (fun t ht hW => ⟨⟨pA (pT w f9) (n + 4), rfl, ⟨f9, rfl, bl, ba⟩, BW_of ht hP⟩, hS.F ht⟩) hS.2.2 d_Lw_feedWord_36
          · exact absurd (by decide) z4

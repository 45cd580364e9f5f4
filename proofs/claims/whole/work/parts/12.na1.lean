/-! NUMBERS: the contracts of Natural, 1 (rows laid by wip/whole/gen/c_na1.py) -/
set_option maxHeartbeats 4000000 in
set_option maxRecDepth 100000 in
/-- trim(most): the length is most, less the zeroes at the upper end -/
theorem c_Na_trim (l : Launch) {D : va_G} {cI cB cR : ClassId} {ad : Nat → Nat} (w : St) (sz : Nat) {i n : Nat} (hi : i < 14) (hn : n ≤ 6272) : Met l y_Na_trim (q_Na_trim :: wA) { frames := 0, cells := 0, slots := 0, locals := 0 } (va_Pc [.ref (ad (2 * i + 8)), .int (nI (n))] (PW D cI cB cR ad w sz)) (va_Qv (fun w1 : St => w1 = pL w i (tl (sW w i) n)) (BW D cI cB cR ad) (AA ad sz)) 0 0 (AA ad sz) := by
  refine Met.ofW (cc := b_Na_trim) (maxL := 2) (ret := none) (by decide) rfl ?_
  intro p e s m args below meth c s₁ B hml hv
  obtain ⟨rfl, hsz, hP, hD0, hKW⟩ := hv
  have hx := B.exec
  have hb := B.bytes
  have hr := B.returns
  have hts := atoms_spec (ws := q_Na_trim :: wA) B.pre
  have hown : s.vm.findClass R_Na = some m.cls := findClass_of_methodNamed B.named
  have hlocks := B.notSynchronized
  subst hsz
  have hD := NC_AA (sz := s.heap.size) hD0
  have hS : va_S (AA ad s.heap.size) s.heap s.heap [] := va_S.rf
  have hl := lv_entry ([.ref (ad (2 * i + 8)), .int (nI (n))]) (n := 2) (Nat.le_of_ble_eq_true rfl)
  rw [lg_entry_eq]
  generalize (lg_sl ([.ref (ad (2 * i + 8)), .int (nI (n))]) ++ List.replicate (2 - (lg_sl ([.ref (ad (2 * i + 8)), .int (nI (n))])).length) Slot.unset).toArray = ls at hl ⊢
  have hl : lv_has ls 2 [(0, .ref (ad (2 * i + 8))), (1, .int (nI (n)))] := hl
  refine lv_aload_n hx hb d_Na_trim_0 rfl (lv_at hl 0 rfl) ?_
  refine lv_iload_n hx hb d_Na_trim_1 rfl (lv_at hl 1 rfl) ?_
  refine nw_pL hx hb hts hown hKW.1 hP hD hS (i := i) (by omega) lf_Na_15 d_Na_trim_2 (fun H locs hP hD hS => ?_)
  obtain ⟨k, hk⟩ : ∃ k, k = n := ⟨n, rfl⟩
  have hkn : tl (sW w i) k = tl (sW w i) n := by rw [hk]
  have hk6 : k ≤ 6272 := by omega
  rw [← hk] at hP hD
  clear hk
  induction k generalizing H locs ls with
  | zero =>
    refine lv_aload_n hx hb d_Na_trim_5 rfl (lv_at hl 0 rfl) ?_
    refine nw_gL hx hb hts hown hKW.1 hP (i := i) (by omega) (n := 0) (sL_pL w i 0) lf_Na_15 d_Na_trim_6 ?_
    refine lv_if_le (tgt := 39) hx hb d_Na_trim_9 (by decide) (fun c9 => ?_) (fun c9 => ?_)
    · skip
      have c9 : 0 ≤ 0 := (nI_leI (by omega) (by omega)).mp (by rw [nI_0]; exact c9)
      exact W.vret hx hb hr (fun t ht hW => ⟨⟨pL w i 0, rfl, by rw [← hkn]; rfl, BW_of ht hP⟩, hS.F ht⟩) hS.2.2 d_Na_trim_39
    · exact absurd (by rw [nI_0]; exact Int32.le_refl 0) c9
  | succ k ih =>
    refine lv_aload_n hx hb d_Na_trim_5 rfl (lv_at hl 0 rfl) ?_
    refine nw_gL hx hb hts hown hKW.1 hP (i := i) (by omega) (n := k + 1) (sL_pL w i (k + 1)) lf_Na_15 d_Na_trim_6 ?_
    refine lv_if_le (tgt := 39) hx hb d_Na_trim_9 (by decide) (fun c9 => ?_) (fun c9 => ?_)
    · exact absurd (nI_0 ▸ c9 : nI (k + 1) ≤ nI 0) (nI_ge (by omega) (by omega))
    · skip
      refine lv_aload_n hx hb d_Na_trim_12 rfl (lv_at hl 0 rfl) ?_
      refine nw_gW hx hb hts hown hKW.1 hP (i := i) (by omega) lf_Na_9 d_Na_trim_13 ?_
      refine lv_aload_n hx hb d_Na_trim_16 rfl (lv_at hl 0 rfl) ?_
      refine nw_gL hx hb hts hown hKW.1 hP (i := i) (by omega) (n := k + 1) (sL_pL w i (k + 1)) lf_Na_15 d_Na_trim_17 ?_
      refine lv_iconst (v := nI (1)) hx hb d_Na_trim_20 (by decide) ?_
      refine nw_isub (v := nI (k)) hx hb d_Na_trim_21 (pk_sub (by omega)) ?_
      refine nw_lW hx hb hKW.1 hP (i := i) (by omega) (j := k) (by omega) (x := sW w i k) rfl d_Na_trim_22 ?_
      refine lv_if_ne (tgt := 39) hx hb d_Na_trim_23 (by decide) (fun c23 => ?_) (fun c23 => ?_)
      · exact W.vret hx hb hr (fun t ht hW => ⟨⟨pL w i (k + 1), rfl, by rw [← hkn, show tl (sW w i) (k + 1) = k + 1 from if_neg c23], BW_of ht hP⟩, hS.F ht⟩) hS.2.2 d_Na_trim_39
      · skip
        refine lv_aload_n hx hb d_Na_trim_26 rfl (lv_at hl 0 rfl) ?_
        refine lv_dup hx hb d_Na_trim_27 rfl ?_
        refine nw_gL hx hb hts hown hKW.1 hP (i := i) (by omega) (n := k + 1) (sL_pL w i (k + 1)) lf_Na_15 d_Na_trim_28 ?_
        refine lv_iconst (v := nI (1)) hx hb d_Na_trim_31 (by decide) ?_
        refine nw_isub (v := nI (k)) hx hb d_Na_trim_32 (pk_sub (by omega)) ?_
        refine nw_pL hx hb hts hown hKW.1 hP hD hS (i := i) (by omega) lf_Na_15 d_Na_trim_33 (fun H locs hP hD hS => ?_)
        refine lv_goto (tgt := 5) hx hb d_Na_trim_36 (by decide) ?_
        rw [pL_pL] at hP hD
        have hkn2 : tl (sW w i) k = tl (sW w i) n := by rw [← hkn, show tl (sW w i) (k + 1) = tl (sW w i) k from if_pos c23]
        have hk62 : k ≤ 6272 := by omega
        apply ih <;> assumption

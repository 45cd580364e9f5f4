/-! THE LAW'S START (rows laid by wip/whole/gen/c_la5.py) -/
theorem inL {w : Cond} (i : Nat) (h : tables_1[i]? = some w) : w ∈ lw_tbl := List.mem_append_right _ (List.mem_of_getElem? h)
theorem wB_in : ∀ w ∈ wB, w ∈ lw_tbl ∧ w.onTables = true := by
  intro w hw
  simp only [wB, List.mem_cons, List.not_mem_nil, or_false] at hw
  rcases hw with e | e | e | e | e | e | e | e | e | e | e <;> subst e
  · exact ⟨inL 203 (by decide +kernel), rfl⟩
  · exact ⟨inL 684 (by decide +kernel), rfl⟩
  · exact ⟨inL 703 (by decide +kernel), rfl⟩
  · exact ⟨inL 127 (by decide +kernel), rfl⟩
  · exact ⟨inL 244 (by decide +kernel), rfl⟩
  · exact ⟨inL 553 (by decide +kernel), rfl⟩
  · exact ⟨inL 794 (by decide +kernel), rfl⟩
  · exact ⟨inL 854 (by decide +kernel), rfl⟩
  · exact ⟨inL 128 (by decide +kernel), rfl⟩
  · exact ⟨inL 130 (by decide +kernel), rfl⟩
  · exact ⟨inL 132 (by decide +kernel), rfl⟩
theorem wNs_in : ∀ w ∈ wNs, w ∈ lw_tbl ∧ w.onTables = true := by
  intro w hw
  simp only [wNs, List.mem_cons, List.not_mem_nil, or_false] at hw
  rcases hw with e | e | e | e <;> subst e
  · exact ⟨inL 37 (by decide +kernel), rfl⟩
  · exact ⟨inL 55 (by decide +kernel), rfl⟩
  · exact ⟨inL 65 (by decide +kernel), rfl⟩
  · exact ⟨inL 70 (by decide +kernel), rfl⟩
theorem CI_0 : CI w0C (fun _ => 0, fun _ => 0, 0, fun _ => 0, 0) := ⟨fun i _ => ⟨⟨Nat.zero_le _, Or.inl rfl, rfl⟩, (show nb 0 ≤ 200000 by decide)⟩, ⟨rfl, by decide, fun j hj => absurd hj (Nat.not_lt_zero _)⟩, ⟨rfl, by decide, fun j hj => absurd hj (Nat.not_lt_zero _)⟩⟩
theorem MI_0 : MI w0M (fun _ => 0, fun _ => 0, 0, fun _ => 0, 0) := ⟨fun _ _ => (show (0 : Nat) < 1073741824 by decide), fun i _ => ⟨⟨Nat.zero_le _, Or.inl rfl, rfl⟩, (show nb 0 ≤ 200000 by decide)⟩, ⟨rfl, by decide, fun j hj => absurd hj (Nat.not_lt_zero _)⟩, ⟨rfl, by decide, fun j hj => absurd hj (Nat.not_lt_zero _)⟩⟩
set_option maxHeartbeats 8000000 in
set_option maxRecDepth 100000 in
theorem whole_start {p : Program} {e : Env} {s : State} {m : MethodId} {below : List Frame} {meth : Method} {c : Code} (l : Launch) (hl9 : l.stackTraces = false) {b L : Nat} {xs : Nat → Int32} (hL : L ≤ 3072) (C0 : lw_At p s m meth c b L xs) : W p l e room_1 s m #[Value.ref b] below meth c s.heap [] 0 0 (lw_Z below #[Value.ref b] s) (entryFrame m ([Value.ref b] : List Value).toArray 8) := by
  have C1 := C0
  obtain ⟨hx, hb, hr, hml, hown, htb, hX, hbl, hlocks, hgv⟩ := C0
  have hown : s.vm.findClass R_La = some m.cls := hown
  have hts : ∀ w ∈ q_La_set :: wA, w.before #[Value.ref b] s = true := fun w hw => htb w (wA_in (by rcases List.mem_cons.mp hw with z | z; rw [z]; exact kq_La_set; exact z))
  have hfl := flat_of_before _ hgv
  obtain ⟨c0, iS0, hKn0⟩ := u_known (C := R_Lw) (T := F_Lw) (N := 9) (n := 9) hts (fun w h => List.mem_cons_of_mem _ (i_Lw w h)) (hA_ hts it_Lw)
  obtain ⟨c1, iS1, hKn1⟩ := u_known (C := R_Na) (T := F_Na) (N := 2) (n := 2) hts (fun w h => List.mem_cons_of_mem _ (i_Na w h)) (hA_ hts it_Na)
  obtain ⟨c2, iS2, hKn2⟩ := u_known (C := R_Be) (T := F_Be) (N := 1) (n := 1) hts (fun w h => List.mem_cons_of_mem _ (i_Be w h)) (hA_ hts it_Be)
  obtain ⟨c3, iS3, hKn3⟩ := u_known (C := R_Ro) (T := F_Ro) (N := 3) (n := 3) hts (fun w h => List.mem_cons_of_mem _ (i_Ro w h)) (hA_ hts it_Ro)
  obtain ⟨c4, iS4, hKn4⟩ := u_known (C := R_Mo) (T := F_Mo) (N := 15) (n := 15) hts (fun w h => List.mem_cons_of_mem _ (i_Mo w h)) (hA_ hts it_Mo)
  obtain ⟨c5, iS5, hKn5⟩ := u_known (C := R_Mn) (T := F_Mn) (N := 2) (n := 2) hts (fun w h => List.mem_cons_of_mem _ (i_Mn w h)) (hA_ hts it_Mn)
  obtain ⟨D, hKc⟩ : ∃ D : va_G, ∀ (k : Nat) (q : vw_C), clA[k]? = some q → u_Kn s q.1 q.2.1 q.2.2 (D.1 k) (D.2 k) := by
    refine ⟨(fun k => if k = 0 then c0 else if k = 1 then c1 else if k = 2 then c2 else if k = 3 then c3 else if k = 4 then c4 else c5, fun k => if k = 0 then iS0 else if k = 1 then iS1 else if k = 2 then iS2 else if k = 3 then iS3 else if k = 4 then iS4 else iS5), ?_⟩
    intro k q hq
    match k, hq with
    | 0, hq => cases hq; exact hKn0
    | 1, hq => cases hq; exact hKn1
    | 2, hq => cases hq; exact hKn2
    | 3, hq => cases hq; exact hKn3
    | 4, hq => cases hq; exact hKn4
    | 5, hq => cases hq; exact hKn5
    | k + 6, hq => simp [clA] at hq
  obtain ⟨cI, kI, cpI, fI1, fI2, fI3⟩ := Cond.arrayClass_spec (hA_ hts ac_int)
  obtain ⟨cB, kB, cpB, fB1, fB2, fB3⟩ := Cond.arrayClass_spec (hA_ hts ac_byte)
  have hK0 : va_K D clA [(cI, .int), (cB, .byte)] s := by
    refine ⟨hKc, fun k q hq => ?_⟩
    match k, hq with
    | 0, hq =>
      cases hq
      exact ⟨fun n z => ⟨fun k h => (by cases h), kI, fI2, cpI, fI3⟩, fI1⟩
    | 1, hq =>
      cases hq
      exact ⟨fun n z => ⟨fun k h => (by cases h), kB, fB2, cpB, fB3⟩, fB1⟩
    | k + 2, hq => simp at hq
  have hKB : KB s := fun w hw => va_Nw.of (wB_in w hw).2 (htb w (wB_in w hw).1)
  have hNM : va_Nw nestM s := va_Nw.of rfl (htb nestM (inL 1075 (by decide +kernel)))
  have hKC : KC D cI cB s := ⟨hK0, fun w hw => va_Nw.of (wNs_in w hw).2 (htb w (wNs_in w hw).1), va_AO.of (htb _ (inL 35 (by decide +kernel))), va_AO.of (htb _ (inL 874 (by decide +kernel)))⟩
  have hNc : NcA s := ⟨va_Nc.of (hfl (.not (.castable E_IS E_IA)) (by decide +kernel)), va_Nc.of (hfl (.not (.castable E_AR E_IA)) (by decide +kernel)), va_Nc.of (hfl (.not (.castable E_UO E_IA)) (by decide +kernel))⟩
  have hzA : vx_Zq Bundle.tN "UNASSIGNED_STACK" Bundle.steD (AL s) s s.heap := vx_Zqof (htb (.laysStatic Bundle.tN "UNASSIGNED_STACK" Bundle.steD) (inL 152 (by decide +kernel))) (htb (.initialized Bundle.tN) (inL 7 (by decide +kernel))) (hfl (.isRef (.static Bundle.tN "UNASSIGNED_STACK" Bundle.steD)) (by decide +kernel)) (fun a h1 h2 => absurd h1 (Nat.not_lt.mpr h2))
  have hzB : vx_Zq Bundle.tN "SUPPRESSED_SENTINEL" Bundle.listD (AL s) s s.heap := vx_Zqof (htb (.laysStatic Bundle.tN "SUPPRESSED_SENTINEL" Bundle.listD) (inL 154 (by decide +kernel))) (htb (.initialized Bundle.tN) (inL 7 (by decide +kernel))) (hfl (.isRef (.static Bundle.tN "SUPPRESSED_SENTINEL" Bundle.listD)) (by decide +kernel)) (fun a h1 h2 => absurd h1 (Nat.not_lt.mpr h2))
  have hA : ∀ q : Nat, s.heap.size ≤ q → AL s q := fun _ h => h
  have hS : va_S (AL s) s.heap s.heap [] := va_S.rf
  have hP : va_P D clA [] s.heap := fun k q h => by simp at h
  have hD : va_D (AL s) [] := ⟨fun i j p q h => by simp at h, fun k q h => by simp at h⟩
  have hl := lv_entry ([.ref b]) (n := 8) (Nat.le_of_ble_eq_true rfl)
  rw [lg_entry_eq]
  generalize (lg_sl ([.ref b]) ++ List.replicate (8 - (lg_sl ([.ref b])).length) Slot.unset).toArray = ls at hl ⊢
  have hl : lv_has ls 8 [(0, .ref b)] := hl
  refine va_new (ci := 0) (fs := [.null, .null, .null, .null, .null, .null, .null, .int 0, .int 0]) (C := R_Lw) (T := F_Lw) (N := 9) hx hb hts (fun w h => List.mem_cons_of_mem _ (i_Lw w h)) t_Lw t_Lw_ok hown (hA_ hts lc_La_8) (hA_ hts it_Lw) (hA_ hts in_Lw) hK0 hP hD hS hA rfl bl_Lw (Nat.le_of_ble_eq_true rfl) (Nat.le_of_ble_eq_true rfl) d_law_0 (fun qC H hP hD hS => ?_)
  have hP : va_P D clA [(qC, .inr (0, [.null, .null, .null, .null, .null, .null, .null, .int 0, .int 0]))] H := hP
  have hD : va_D (AL s) [(qC, .inr (0, [.null, .null, .null, .null, .null, .null, .null, .int 0, .int 0]))] := hD
  refine lv_dup hx hb d_law_3 rfl ?_
  have hFc := va_free (wc := [(qC, .inr (0, [.null, .null, .null, .null, .null, .null, .null, .int 0, .int 0]))]) hD hS hA [0] rfl
  refine va_callv (va_runI (As := []) (rest := [.ref qC]) ⟨hx, hb, hml, hown, hts⟩ (c_Lw_init l qC H.size) (cwI 0 hts (gA kq_Lw_init) rfl rfl rfl (hA_ hts in_Lw) (hA_ hts lm_La_77) (hA_ hts im_Lw_init) rfl (by decide +kernel) ⟨Nat.le_of_ble_eq_true rfl, Nat.le_of_ble_eq_true rfl⟩) ⟨KC_blind, fun U hU hW => ⟨rfl, by rw [hU], by rw [hU]; exact hP, KC_warm hW hKC, hD.weaken (fun _ _ _ _ => trivial)⟩⟩ rfl rfl hl.1 rfl (lv_room (Nat.le_of_ble_eq_true rfl)) d_law_4 ⟨Nat.le_of_ble_eq_true rfl, Nat.le_of_ble_eq_true rfl⟩) hS (fun q _ h => hFc q h) hFc (fun u t H1 locs ht hvm _ hB hz1 hk1 hS => ?_)
  obtain ⟨adC, cRc⟩ := u
  obtain ⟨hP1, hD1, hK1, hu1⟩ := hB
  rw [ht] at hP1
  have hKC1 : va_K D clA (tyA cI cB cRc) s := va_K.moved hvm.symm hK1
  have hu1 : adC 0 = qC := hu1
  have hP1 : va_P D clA (NC cI cB cRc adC w0C) H1 := hP1
  have hDC : va_D (AL s) (NC cI cB cRc adC w0C) := hD1.weaken (fun _ _ _ h => hFc _ h)
  subst hu1
  generalize H1 = H at hP1 hS ⊢
  refine lv_astore_n (lv' := [(1, .ref (adC 0)), (0, .ref b)]) hx hb d_law_7 rfl hl (by decide) rfl (fun ls hl => ?_)
  have hP := hP1
  have hD := hDC
  refine va_new (ci := 4) (fs := [.null, .null, .null, .null, .null, .null, .null, .null, .null, .null, .null, .null, .int 0, .int 0, .int 0]) (C := R_Mo) (T := F_Mo) (N := 15) hx hb hts (fun w h => List.mem_cons_of_mem _ (i_Mo w h)) t_Mo t_Mo_ok hown (hA_ hts lc_La_78) (hA_ hts it_Mo) (hA_ hts in_Mo) hK0 hP hD hS hA rfl bl_Mo (Nat.le_of_ble_eq_true rfl) (Nat.le_of_ble_eq_true rfl) d_law_8 (fun qM H hP hD hS => ?_)
  have hPM : va_P D clA [(qM, .inr (4, [.null, .null, .null, .null, .null, .null, .null, .null, .null, .null, .null, .null, .int 0, .int 0, .int 0]))] H := hP.by (fun k => k + 36) (fun k x hx => by
    have hz : k < 1 := (List.getElem?_eq_some_iff.mp hx).1
    rw [show k = 0 by omega] at hx ⊢
    rw [show 0 + 36 = 36 from rfl, List.getElem?_append_right (by rw [NC_len]; exact Nat.le_refl _), NC_len]
    exact hx)
  have hPC : va_P D clA (NC cI cB cRc adC w0C) H := hP.by id (fun k x hx => by
    have hk36 := (List.getElem?_eq_some_iff.mp hx).1
    show (NC cI cB cRc adC w0C ++ _)[k]? = _
    rw [List.getElem?_append_left hk36]
    exact hx)
  have hqM : AL s qM := hD.2 36 _ (by rw [List.getElem?_append_right (by rw [NC_len]; exact Nat.le_refl _), NC_len]; rfl)
  have hCM : ∀ i, i < 36 → adC i ≠ qM := fun i hi h => by
    have := hD.1 i 36 _ _ (by rw [List.getElem?_append_left (by rw [NC_len]; exact hi)]; exact NC_at hi) (by rw [List.getElem?_append_right (by rw [NC_len]; exact Nat.le_refl _), NC_len]; rfl) h
    omega
  have hDM : va_D (AL s) [(qM, .inr (4, [.null, .null, .null, .null, .null, .null, .null, .null, .null, .null, .null, .null, .int 0, .int 0, .int 0]))] := ⟨fun i j a b h1 h2 _ => by have a1 : i < 1 := (List.getElem?_eq_some_iff.mp h1).1; have a2 : j < 1 := (List.getElem?_eq_some_iff.mp h2).1; omega, fun k q hq => by
    have hz : k < 1 := (List.getElem?_eq_some_iff.mp hq).1
    rw [show k = 0 by omega] at hq
    cases hq
    exact hqM⟩
  refine lv_dup hx hb d_law_11 rfl ?_
  have hFc := va_free (wc := [(qM, .inr (4, [.null, .null, .null, .null, .null, .null, .null, .null, .null, .null, .null, .null, .int 0, .int 0, .int 0]))]) hDM hS hA [0] rfl
  refine va_callv (va_runI (As := []) (rest := [.ref qM]) ⟨hx, hb, hml, hown, hts⟩ (c_Mo_init l qM H.size) (cwI 0 hts (gA kq_Mo_init) rfl rfl rfl (hA_ hts in_Mo) (hA_ hts lm_La_80) (hA_ hts im_Mo_init) rfl (by decide +kernel) ⟨Nat.le_of_ble_eq_true rfl, Nat.le_of_ble_eq_true rfl⟩) ⟨KC_blind, fun U hU hW => ⟨rfl, by rw [hU], by rw [hU]; exact hPM, KC_warm hW hKC, hDM.weaken (fun _ _ _ _ => trivial)⟩⟩ rfl rfl hl.1 rfl (lv_room (Nat.le_of_ble_eq_true rfl)) d_law_12 ⟨Nat.le_of_ble_eq_true rfl, Nat.le_of_ble_eq_true rfl⟩) hS (fun q _ h => hFc q h) hFc (fun u t H1 locs ht hvm _ hB hz1 hk1 hS => ?_)
  obtain ⟨adM, cRm⟩ := u
  obtain ⟨hP2, hD2, hK2, hu2⟩ := hB
  rw [ht] at hP2
  have hKM1 : va_K D clA (tyM cI cB cRm) s := va_K.moved hvm.symm hK2
  have hu2 : adM 0 = qM := hu2
  have hP2 : va_P D clA (NM cI cB cRm adM w0M) H1 := hP2
  have hD2 : va_D (va_A [(qM, .inr (4, [.null, .null, .null, .null, .null, .null, .null, .null, .null, .null, .null, .null, .int 0, .int 0, .int 0]))] H.size) (NM cI cB cRm adM w0M) := hD2
  have hltC : ∀ i, i < 36 → adC i < H.size := fun i hi => (hPC i _ (NC_at hi)).lt
  have hnA : ∀ i, i < 36 → ¬ va_A [(qM, .inr (4, [.null, .null, .null, .null, .null, .null, .null, .null, .null, .null, .null, .null, .int 0, .int 0, .int 0]))] H.size (adC i) := fun i hi h => by
    rcases h with ⟨k, e, h⟩ | h
    · have hz : k < 1 := (List.getElem?_eq_some_iff.mp h).1
      rw [show k = 0 by omega] at h
      have h := Option.some.inj h
      exact hCM i hi (congrArg Prod.fst h).symm
    · exact absurd (hltC i hi) (Nat.not_lt.mpr h)
  have hcm : ∀ i j, i < 36 → j < 42 → adC i ≠ adM j := fun i j hi hj h => hnA i hi (by rw [h]; exact hD2.2 j _ (NM_at hj))
  have hPC : va_P D clA (NC cI cB cRc adC w0C) H1 := hPC.kept (fun k q hq => by
    have hl36 : k < 36 := by have := (List.getElem?_eq_some_iff.mp hq).1; rw [NC_len] at this; exact this
    rw [NC_at hl36] at hq
    cases hq
    exact hk1 _ (hltC k hl36) (hnA k hl36))
  have hDMM : va_D (AL s) (NM cI cB cRm adM w0M) := hD2.weaken (fun _ _ _ h => hFc _ h)
  subst hu2
  generalize H1 = H at hP2 hPC hS ⊢
  refine lv_astore_n (lv' := [(2, .ref (adM 0)), (1, .ref (adC 0)), (0, .ref b)]) hx hb d_law_15 rfl hl (by decide) rfl (fun ls hl => ?_)
  refine lv_iconst (v := nI (1)) hx hb d_law_16 (by decide) ?_
  have hPP := hPC.app hP2
  have hDD : va_D (AL s) (NC cI cB cRc adC w0C ++ NM cI cB cRm adM w0M) := hDC.app hDMM (fun i j a b h1 h2 => by
    have hl36 : i < 36 := by have := (List.getElem?_eq_some_iff.mp h1).1; rw [NC_len] at this; exact this
    have hl42 : j < 42 := by have := (List.getElem?_eq_some_iff.mp h2).1; rw [NM_len] at this; exact this
    rw [NC_at hl36] at h1
    rw [NM_at hl42] at h2
    cases h1
    cases h2
    exact hcm i j hl36 hl42)
  refine va_newa (atype := .long) hx hb (hA_ hts ac_long) (ty := .long) rfl hK0 hPP hDD hS hA (a0 := (1, .inr (.inl (fun _ => 0)))) (fun cA => rfl) (by decide) (N' := 1) (by decide) (by decide) (Nat.le_of_ble_eq_true rfl) (Nat.le_of_ble_eq_true rfl) d_law_17 (fun qo cL H hK9 hP hD hS => ?_)
  have hlen : (NC cI cB cRc adC w0C ++ NM cI cB cRm adM w0M).length = 78 := by rw [List.length_append, NC_len, NM_len]
  have hatO : ((NC cI cB cRc adC w0C ++ NM cI cB cRm adM w0M) ++ [(qo, .inl (cL, 1, .inr (.inl (fun _ => 0))))] : va_W)[78]? = some (qo, .inl (cL, 1, .inr (.inl (fun _ => 0)))) := by rw [List.getElem?_append_right (by rw [hlen]; exact Nat.le_refl _), hlen]; rfl
  have hatC : ∀ i, i < 36 → ((NC cI cB cRc adC w0C ++ NM cI cB cRm adM w0M) ++ [(qo, .inl (cL, 1, .inr (.inl (fun _ => 0))))] : va_W)[i]? = (NC cI cB cRc adC w0C)[i]? := fun i hi => by rw [List.getElem?_append_left (by rw [hlen]; omega), List.getElem?_append_left (by rw [NC_len]; exact hi)]
  have hatM : ∀ j, j < 42 → ((NC cI cB cRc adC w0C ++ NM cI cB cRm adM w0M) ++ [(qo, .inl (cL, 1, .inr (.inl (fun _ => 0))))] : va_W)[j + 36]? = (NM cI cB cRm adM w0M)[j]? := fun j hj => by rw [List.getElem?_append_left (by rw [hlen]; omega), List.getElem?_append_right (by rw [NC_len]; omega), NC_len, Nat.add_sub_cancel]
  have hPC : va_P D clA (NC cI cB cRc adC w0C) H := hP.by id (fun k x hx => by
    have hl36 : k < 36 := by have := (List.getElem?_eq_some_iff.mp hx).1; rw [NC_len] at this; exact this
    exact (hatC k hl36).trans hx)
  have hPM : va_P D clA (NM cI cB cRm adM w0M) H := hP.by (fun k => k + 36) (fun k x hx => by
    have hl42 : k < 42 := by have := (List.getElem?_eq_some_iff.mp hx).1; rw [NM_len] at this; exact this
    exact (hatM k hl42).trans hx)
  have hPO : va_P D clA (OC cL qo (fun _ => 0)) H := hP.by (fun k => k + 78) (fun k x hx => by
    have hz : k < 1 := (List.getElem?_eq_some_iff.mp hx).1
    rw [show k = 0 by omega] at hx ⊢
    exact hatO.trans hx)
  have hco : ∀ i, i < 36 → adC i ≠ qo := fun i hi h => by have := hD.1 i 78 _ _ ((hatC i hi).trans (NC_at hi)) hatO h; omega
  have hmo : ∀ j, j < 42 → adM j ≠ qo := fun j hj h => by have := hD.1 (j + 36) 78 _ _ ((hatM j hj).trans (NM_at hj)) hatO h; omega
  have hKL : va_K D clA [(cL, .long)] s := ⟨hK9.1, fun k q hq => by
    have hz : k < 1 := (List.getElem?_eq_some_iff.mp hq).1
    rw [show k = 0 by omega] at hq
    exact hK9.2 2 q hq⟩
  have K : LK D cI cB cRc cRm cL adC adM qo s := ⟨hKC1, hKM1, hKL, hKB, hNM, hNc, hzA, hzB, hDC, hDMM, hD.2 78 _ hatO, hcm, hco, hmo⟩
  refine lv_astore_n (lv' := [(3, .ref qo), (2, .ref (adM 0)), (1, .ref (adC 0)), (0, .ref b)]) hx hb d_law_19 rfl hl (by decide) rfl (fun ls hl => ?_)
  refine lv_iconst (v := nI (0)) hx hb d_law_20 (by decide) ?_
  refine lv_istore (lv' := [(4, .int (nI (0))), (3, .ref qo), (2, .ref (adM 0)), (1, .ref (adC 0)), (0, .ref b)]) hx hb d_law_21 hl (by decide) rfl (fun ls hl => ?_)
  refine W.widen (k := 100 + 12 * 0) (n := 400000 + 72 * 0) (Nat.le_of_ble_eq_true rfl) (Nat.le_of_ble_eq_true rfl) ?_
  exact law_loop hl9 hL C1 K 513 0 w0C w0M (fun _ => 0) _ H locs ls rfl CI_0 MI_0 hPC hPM hPO hS (lv_sub hl [0, 4, 3, 2, 1] rfl)

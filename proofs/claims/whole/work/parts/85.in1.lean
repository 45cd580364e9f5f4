/-! CONSTRUCTORS (rows laid by wip/whole/gen/c_in1.py) -/
theorem im_obj : (.instanceMethod objectInit : Cond) ∈ wA := inT 32 (by decide +kernel) rfl
theorem kq_obj : (.code objectInit ⟨#[0xb1]⟩ 1 none : Cond) ∈ wA := inT 33 (by decide +kernel) rfl
/-- links of nest mates to constructors -/
def wNs : List Cond := [.methodLinkNest R_Lw 15 y_Na_init R_Lw, .methodLinkNest R_Lw 22 y_Be_init R_Lw, .methodLinkNest R_Lw 29 y_Ro_init R_Lw, .methodLinkNest R_Ro 9 y_Na_init R_Lw]
theorem nN_0 : Cond.methodLinkNest R_Lw 15 y_Na_init R_Lw ∈ wNs := List.mem_of_getElem? (i := 0) rfl
theorem nN_1 : Cond.methodLinkNest R_Lw 22 y_Be_init R_Lw ∈ wNs := List.mem_of_getElem? (i := 1) rfl
theorem nN_2 : Cond.methodLinkNest R_Lw 29 y_Ro_init R_Lw ∈ wNs := List.mem_of_getElem? (i := 2) rfl
theorem nN_3 : Cond.methodLinkNest R_Ro 9 y_Na_init R_Lw ∈ wNs := List.mem_of_getElem? (i := 3) rfl
/-- what a constructor must know -/
def KC (D : va_G) (cI cB : ClassId) (U : State) : Prop := va_K D clA [(cI, .int), (cB, .byte)] U ∧ (∀ w ∈ wNs, va_Nw w U) ∧ va_AO "LimbWorks$Natural" U ∧ va_AO "LimbWorksModel$Nat" U
theorem KC_warm {D : va_G} {cI cB : ClassId} {s U : State} (hW : s.WarmedH U.vm) (h : KC D cI cB s) : KC D cI cB U := by
  refine ⟨va_K.moved hW.alike h.1, fun w hw => ?_, h.2.2.1.moved hW.alike, h.2.2.2.moved hW.alike⟩
  have h1 := h.2.1 w hw
  simp only [wNs, List.mem_cons, List.not_mem_nil, or_false] at hw
  rcases hw with e | e | e | e <;> subst e <;> exact va_Nw.warmM hW h1
theorem KC_call {D : va_G} {cI cB : ClassId} {U V : State} (hv : U.vm = V.vm) (h : KC D cI cB U) : KC D cI cB V := by
  have hal : U.vm.Alike V.vm := by rw [hv]; exact Vm.Alike.refl _
  refine ⟨va_K.moved hal h.1, fun w hw => ?_, h.2.2.1.moved hal, h.2.2.2.moved hal⟩
  have h1 := h.2.1 w hw
  simp only [wNs, List.mem_cons, List.not_mem_nil, or_false] at hw
  rcases hw with e | e | e | e <;> subst e <;> exact va_Nw.same rfl hv h1
theorem KC_blind {D : va_G} {cI cB : ClassId} {av : List Value} {sz : Nat} {ws : va_W} : FrameBlind (va_Pc av (fun U => U.heap.size = sz ∧ va_P D clA ws U.heap ∧ KC D cI cB U ∧ va_D (fun _ => True) ws)) := fun a U g mk q => by
  obtain ⟨q0, q1, qP, qK, qD⟩ := q
  exact ⟨q0, q1, qP, KC_call (U := U) (V := U.calling g mk a) rfl qK, qD⟩
theorem ra_int {D : va_G} {cl : List vw_C} {t1 t2 : List (ClassId × FieldType)} {s : State} {a b : ClassId} (h1 : va_K D cl t1 s) (k1 : Nat) (h2 : va_K D cl t2 s) (k2 : Nat) (e1 : t1[k1]? = some (a, .int)) (e2 : t2[k2]? = some (b, .int)) : a = b := by
  have a1 : s.vm.findClass ("[" ++ FieldType.int.toString) = some a := (h1.2 k1 _ e1).2
  have a2 : s.vm.findClass ("[" ++ FieldType.int.toString) = some b := (h2.2 k2 _ e2).2
  exact Option.some.inj (a1.symm.trans a2)
theorem ra_byte {D : va_G} {cl : List vw_C} {t1 t2 : List (ClassId × FieldType)} {s : State} {a b : ClassId} (h1 : va_K D cl t1 s) (k1 : Nat) (h2 : va_K D cl t2 s) (k2 : Nat) (e1 : t1[k1]? = some (a, .byte)) (e2 : t2[k2]? = some (b, .byte)) : a = b := by
  have a1 : s.vm.findClass ("[" ++ FieldType.byte.toString) = some a := (h1.2 k1 _ e1).2
  have a2 : s.vm.findClass ("[" ++ FieldType.byte.toString) = some b := (h2.2 k2 _ e2).2
  exact Option.some.inj (a1.symm.trans a2)
/-- a cell of references, as far as it goes -/
theorem va_P.refs {D : va_G} {cl : List vw_C} {ws : va_W} {H : Heap} (h : va_P D cl ws H) (k : Nat) {a : Nat} {cA : ClassId} {n : Nat} {f g : Nat → Option Nat} (hk : ws[k]? = some (a, .inl (cA, n, .inr (.inr (.inr (.inr f)))))) (hf : ∀ j, j < n → f j = g j) : va_P D cl (ws.set k (a, .inl (cA, n, .inr (.inr (.inr (.inr g)))))) H := by
  intro j q hj
  rw [List.getElem?_set] at hj
  by_cases e : k = j
  · subst e
    rw [if_pos rfl] at hj
    split at hj
    · cases hj
      have h1 : H[a]? = some (vp_cell cA (n, .inr (.inr (.inr (.inr f))))) := h k _ hk
      show H[a]? = some (vp_cell cA (n, .inr (.inr (.inr (.inr g)))))
      rw [h1, vp_cell_q, vp_cell_q]
      unfold arrV
      congr 3
      funext z
      show va_rf (f z.val) = va_rf (g z.val)
      rw [hf z.val z.isLt]
    · cases hj
  · rw [if_neg e] at hj
    exact h j q hj
theorem bl_Na : ∀ j, j < 2 → defaultValue (t_Na j) = vp_V [.null, .int 0] j := fun j hj => by
  match j, hj with
  | 0, _ | 1, _ => rfl
theorem bl_Be : ∀ j, j < 1 → defaultValue (t_Be j) = vp_V [.null] j := fun j hj => by
  match j, hj with
  | 0, _ => rfl
theorem bl_Ro : ∀ j, j < 3 → defaultValue (t_Ro j) = vp_V [.null, .null, .null] j := fun j hj => by
  match j, hj with
  | 0, _ | 1, _ | 2, _ => rfl
theorem bl_Lw : ∀ j, j < 9 → defaultValue (t_Lw j) = vp_V [.null, .null, .null, .null, .null, .null, .null, .int 0, .int 0] j := fun j hj => by
  match j, hj with
  | 0, _ | 1, _ | 2, _ | 3, _ | 4, _ | 5, _ | 6, _ | 7, _ | 8, _ => rfl
theorem bl_Mn : ∀ j, j < 2 → defaultValue (t_Mn j) = vp_V [.null, .int 0] j := fun j hj => by
  match j, hj with
  | 0, _ | 1, _ => rfl
theorem bl_Mo : ∀ j, j < 15 → defaultValue (t_Mo j) = vp_V [.null, .null, .null, .null, .null, .null, .null, .null, .null, .null, .null, .null, .int 0, .int 0, .int 0] j := fun j hj => by
  match j, hj with
  | 0, _ | 1, _ | 2, _ | 3, _ | 4, _ | 5, _ | 6, _ | 7, _ | 8, _ | 9, _ | 10, _ | 11, _ | 12, _ | 13, _ | 14, _ => rfl
set_option maxHeartbeats 8000000 in
set_option maxRecDepth 100000 in
theorem c_Na_init (l : Launch) {D : va_G} {cI cB : ClassId} (h0 sz : Nat) : Met l y_Na_init (q_Na_init :: wA) { frames := 1, cells := 1, slots := 6272, locals := 30 } (va_Pc [.ref (h0)] (fun U => U.heap.size = sz ∧ va_P D clA [(h0, .inr (1, [.null, .int 0]))] U.heap ∧ KC D cI cB U ∧ va_D (fun _ => True) [(h0, .inr (1, [.null, .int 0]))])) (va_Qv (fun _ : Nat => True) (fun u t => va_P D clA [(h0, .inr (1, [.ref (u), .int (nI (0))])), (u, .inl (cI, 6272, .inl (fun _ => 0)))] t.heap ∧ va_D (va_A [(h0, .inr (1, [.null, .int 0]))] sz) [(h0, .inr (1, [.ref (u), .int (nI (0))])), (u, .inl (cI, 6272, .inl (fun _ => 0)))]) (va_A [(h0, .inr (1, [.null, .int 0]))] sz)) 1 6272 (va_A [(h0, .inr (1, [.null, .int 0]))] sz) := by
  refine Met.ofW (cc := b_Na_init) (maxL := 1) (ret := none) (by decide) rfl ?_
  intro p e s m args below meth c s₁ B hml hv
  obtain ⟨rfl, hsz, hP, hKC, hD0⟩ := hv
  have hx := B.exec
  have hb := B.bytes
  have hr := B.returns
  have hts := atoms_spec (ws := q_Na_init :: wA) B.pre
  have hown : s.vm.findClass R_Na = some m.cls := findClass_of_methodNamed B.named
  have hlocks := B.notSynchronized
  have hin : meth.name = "<init>" := (name_of_methodNamed B.named B.method).1
  subst hsz
  have hK : va_K D clA [(cI, .int), (cB, .byte)] s := hKC.1
  have hKN := hKC.2.1
  have hAO := hKC.2.2.1
  have hD := hD0.self (sz := s.heap.size)
  generalize hAe : va_A [(h0, .inr (1, [.null, .int 0]))] s.heap.size = A at hD ⊢
  have hA : ∀ q : Nat, s.heap.size ≤ q → A q := fun q h => by rw [← hAe]; exact Or.inr h
  have hS : va_S A s.heap s.heap [] := va_S.rf
  have hl := lv_entry ([.ref (h0)]) (n := 1) (Nat.le_of_ble_eq_true rfl)
  rw [lg_entry_eq]
  generalize (lg_sl ([.ref (h0)]) ++ List.replicate (1 - (lg_sl ([.ref (h0)])).length) Slot.unset).toArray = ls at hl ⊢
  have hl : lv_has ls 1 [(0, .ref (h0))] := hl
  refine lv_aload_n hx hb d_Na_init_0 rfl (lv_at hl 0 rfl) ?_
  refine W.objInit hx hb hown (hA_ hts lm_Na_3) (hA_ hts im_obj) (hA_ hts kq_obj) rfl (by rw [hml]; exact hl.1) rfl d_Na_init_1 (Nat.le_of_ble_eq_true rfl) (Nat.le_of_ble_eq_true rfl) ?_
  refine W.eq (g2 := F0 m 4 ls []) rfl ?_
  refine lv_aload_n hx hb d_Na_init_4 rfl (lv_at hl 0 rfl) ?_
  refine lv_sipush (v := nI (6272)) hx hb d_Na_init_5 (by decide) ?_
  refine va_newa (atype := .int) hx hb (hA_ hts ac_int) (ty := .int) rfl hK hP hD hS hA (a0 := (6272, .inl (fun _ => 0))) (fun cA => rfl) (by decide) (N' := 6272) (by decide) (by decide) (Nat.le_of_ble_eq_true rfl) (Nat.le_of_ble_eq_true rfl) d_Na_init_8 (fun q1 cA9 H hK9 hP hD hS => ?_)
  have hcA : cA9 = cI := ra_int hK9 2 hK 0 rfl rfl
  rw [hcA] at hP hD
  have hP : va_P D clA [(h0, .inr (1, [.null, .int 0])), (q1, .inl (cI, 6272, .inl (fun _ => 0)))] H := hP
  have hD : va_D A [(h0, .inr (1, [.null, .int 0])), (q1, .inl (cI, 6272, .inl (fun _ => 0)))] := hD
  refine va_putF (D := D) (ci := 1) (v := .ref (q1)) (ty := .array (.int)) (C := R_Na) (T := F_Na) (N := 2) hx hb hts (fun w h => List.mem_cons_of_mem _ (i_Na w h)) t_Na t_Na_ok n_Na hown hK hP hD hS 0 rfl rfl 0 (by decide) (hA_ hts lf_Na_9) (fun _ h9 => h9) rfl hin rfl (by decide +kernel) rfl rfl (Nat.le_of_ble_eq_true rfl) d_Na_init_10 (fun H locs hP hD hS => ?_)
  have hP : va_P D clA [(h0, .inr (1, [.ref (q1), .int 0])), (q1, .inl (cI, 6272, .inl (fun _ => 0)))] H := hP
  have hD : va_D A [(h0, .inr (1, [.ref (q1), .int 0])), (q1, .inl (cI, 6272, .inl (fun _ => 0)))] := hD
  refine lv_aload_n hx hb d_Na_init_13 rfl (lv_at hl 0 rfl) ?_
  refine lv_iconst (v := nI (0)) hx hb d_Na_init_14 (by decide) ?_
  refine va_put (D := D) (ci := 1) (v := .int (nI (0))) (ty := .int) (C := R_Na) (T := F_Na) (N := 2) hx hb hts (fun w h => List.mem_cons_of_mem _ (i_Na w h)) t_Na t_Na_ok n_Na hown hK hP hD hS 0 rfl rfl 1 (by decide) (hA_ hts lf_Na_15) (fun _ h9 => h9) rfl (by decide +kernel) rfl rfl (Nat.le_of_ble_eq_true rfl) d_Na_init_15 (fun H locs hP hD hS => ?_)
  have hP : va_P D clA [(h0, .inr (1, [.ref (q1), .int (nI (0))])), (q1, .inl (cI, 6272, .inl (fun _ => 0)))] H := hP
  have hD : va_D A [(h0, .inr (1, [.ref (q1), .int (nI (0))])), (q1, .inl (cI, 6272, .inl (fun _ => 0)))] := hD
  have hP9 := hP.sub (ws' := [(h0, .inr (1, [.ref (q1), .int (nI (0))])), (q1, .inl (cI, 6272, .inl (fun _ => 0)))]) [0, 1] rfl
  have hD9 := hD.sub (ws' := [(h0, .inr (1, [.ref (q1), .int (nI (0))])), (q1, .inl (cI, 6272, .inl (fun _ => 0)))]) [0, 1] (by decide) rfl
  refine W.widen (k := 1) (n := 6272) (Nat.le_of_ble_eq_true rfl) (Nat.le_of_ble_eq_true rfl) ?_
  exact W.vret hx hb hr (fun t ht hW => ⟨⟨q1, rfl, trivial, by rw [ht]; exact hP9, hD9⟩, hS.F ht⟩) hS.2.2 d_Na_init_18
set_option maxHeartbeats 8000000 in
set_option maxRecDepth 100000 in
theorem c_Be_init (l : Launch) {D : va_G} {cI cB : ClassId} (h0 sz : Nat) : Met l y_Be_init (q_Be_init :: wA) { frames := 1, cells := 1, slots := 28672, locals := 30 } (va_Pc [.ref (h0)] (fun U => U.heap.size = sz ∧ va_P D clA [(h0, .inr (2, [.null]))] U.heap ∧ KC D cI cB U ∧ va_D (fun _ => True) [(h0, .inr (2, [.null]))])) (va_Qv (fun _ : Nat => True) (fun u t => va_P D clA [(h0, .inr (2, [.ref (u)])), (u, .inl (cI, 28672, .inl (fun _ => 0)))] t.heap ∧ va_D (va_A [(h0, .inr (2, [.null]))] sz) [(h0, .inr (2, [.ref (u)])), (u, .inl (cI, 28672, .inl (fun _ => 0)))]) (va_A [(h0, .inr (2, [.null]))] sz)) 1 28672 (va_A [(h0, .inr (2, [.null]))] sz) := by
  refine Met.ofW (cc := b_Be_init) (maxL := 1) (ret := none) (by decide) rfl ?_
  intro p e s m args below meth c s₁ B hml hv
  obtain ⟨rfl, hsz, hP, hKC, hD0⟩ := hv
  have hx := B.exec
  have hb := B.bytes
  have hr := B.returns
  have hts := atoms_spec (ws := q_Be_init :: wA) B.pre
  have hown : s.vm.findClass R_Be = some m.cls := findClass_of_methodNamed B.named
  have hlocks := B.notSynchronized
  have hin : meth.name = "<init>" := (name_of_methodNamed B.named B.method).1
  subst hsz
  have hK : va_K D clA [(cI, .int), (cB, .byte)] s := hKC.1
  have hKN := hKC.2.1
  have hAO := hKC.2.2.1
  have hD := hD0.self (sz := s.heap.size)
  generalize hAe : va_A [(h0, .inr (2, [.null]))] s.heap.size = A at hD ⊢
  have hA : ∀ q : Nat, s.heap.size ≤ q → A q := fun q h => by rw [← hAe]; exact Or.inr h
  have hS : va_S A s.heap s.heap [] := va_S.rf
  have hl := lv_entry ([.ref (h0)]) (n := 1) (Nat.le_of_ble_eq_true rfl)
  rw [lg_entry_eq]
  generalize (lg_sl ([.ref (h0)]) ++ List.replicate (1 - (lg_sl ([.ref (h0)])).length) Slot.unset).toArray = ls at hl ⊢
  have hl : lv_has ls 1 [(0, .ref (h0))] := hl
  refine lv_aload_n hx hb d_Be_init_0 rfl (lv_at hl 0 rfl) ?_
  refine W.objInit hx hb hown (hA_ hts lm_Be_3) (hA_ hts im_obj) (hA_ hts kq_obj) rfl (by rw [hml]; exact hl.1) rfl d_Be_init_1 (Nat.le_of_ble_eq_true rfl) (Nat.le_of_ble_eq_true rfl) ?_
  refine W.eq (g2 := F0 m 4 ls []) rfl ?_
  refine lv_aload_n hx hb d_Be_init_4 rfl (lv_at hl 0 rfl) ?_
  refine lv_sipush (v := nI (28672)) hx hb d_Be_init_5 (by decide) ?_
  refine va_newa (atype := .int) hx hb (hA_ hts ac_int) (ty := .int) rfl hK hP hD hS hA (a0 := (28672, .inl (fun _ => 0))) (fun cA => rfl) (by decide) (N' := 28672) (by decide) (by decide) (Nat.le_of_ble_eq_true rfl) (Nat.le_of_ble_eq_true rfl) d_Be_init_8 (fun q1 cA9 H hK9 hP hD hS => ?_)
  have hcA : cA9 = cI := ra_int hK9 2 hK 0 rfl rfl
  rw [hcA] at hP hD
  have hP : va_P D clA [(h0, .inr (2, [.null])), (q1, .inl (cI, 28672, .inl (fun _ => 0)))] H := hP
  have hD : va_D A [(h0, .inr (2, [.null])), (q1, .inl (cI, 28672, .inl (fun _ => 0)))] := hD
  refine va_putF (D := D) (ci := 2) (v := .ref (q1)) (ty := .array (.int)) (C := R_Be) (T := F_Be) (N := 1) hx hb hts (fun w h => List.mem_cons_of_mem _ (i_Be w h)) t_Be t_Be_ok n_Be hown hK hP hD hS 0 rfl rfl 0 (by decide) (hA_ hts lf_Be_11) (fun _ h9 => h9) rfl hin rfl (by decide +kernel) rfl rfl (Nat.le_of_ble_eq_true rfl) d_Be_init_10 (fun H locs hP hD hS => ?_)
  have hP : va_P D clA [(h0, .inr (2, [.ref (q1)])), (q1, .inl (cI, 28672, .inl (fun _ => 0)))] H := hP
  have hD : va_D A [(h0, .inr (2, [.ref (q1)])), (q1, .inl (cI, 28672, .inl (fun _ => 0)))] := hD
  have hP9 := hP.sub (ws' := [(h0, .inr (2, [.ref (q1)])), (q1, .inl (cI, 28672, .inl (fun _ => 0)))]) [0, 1] rfl
  have hD9 := hD.sub (ws' := [(h0, .inr (2, [.ref (q1)])), (q1, .inl (cI, 28672, .inl (fun _ => 0)))]) [0, 1] (by decide) rfl
  refine W.widen (k := 1) (n := 28672) (Nat.le_of_ble_eq_true rfl) (Nat.le_of_ble_eq_true rfl) ?_
  exact W.vret hx hb hr (fun t ht hW => ⟨⟨q1, rfl, trivial, by rw [ht]; exact hP9, hD9⟩, hS.F ht⟩) hS.2.2 d_Be_init_13
set_option maxHeartbeats 8000000 in
set_option maxRecDepth 100000 in
theorem c_Ro_init (l : Launch) {D : va_G} {cI cB : ClassId} (h0 sz : Nat) : Met l y_Ro_init (q_Ro_init :: wA) { frames := 3, cells := 6, slots := 18822, locals := 80 } (va_Pc [.ref (h0)] (fun U => U.heap.size = sz ∧ va_P D clA [(h0, .inr (3, [.null, .null, .null]))] U.heap ∧ KC D cI cB U ∧ va_D (fun _ => True) [(h0, .inr (3, [.null, .null, .null]))])) (va_Qv (fun _ : Nat → Nat => True) (fun u t => va_P D clA [(h0, .inr (3, [.ref (u 0), .ref (u 2), .ref (u 4)])), (u 0, .inr (1, [.ref (u 1), .int (nI (0))])), (u 1, .inl (cI, 6272, .inl (fun _ => 0))), (u 2, .inr (1, [.ref (u 3), .int (nI (0))])), (u 3, .inl (cI, 6272, .inl (fun _ => 0))), (u 4, .inr (1, [.ref (u 5), .int (nI (0))])), (u 5, .inl (cI, 6272, .inl (fun _ => 0)))] t.heap ∧ va_D (va_A [(h0, .inr (3, [.null, .null, .null]))] sz) [(h0, .inr (3, [.ref (u 0), .ref (u 2), .ref (u 4)])), (u 0, .inr (1, [.ref (u 1), .int (nI (0))])), (u 1, .inl (cI, 6272, .inl (fun _ => 0))), (u 2, .inr (1, [.ref (u 3), .int (nI (0))])), (u 3, .inl (cI, 6272, .inl (fun _ => 0))), (u 4, .inr (1, [.ref (u 5), .int (nI (0))])), (u 5, .inl (cI, 6272, .inl (fun _ => 0)))]) (va_A [(h0, .inr (3, [.null, .null, .null]))] sz)) 6 18822 (va_A [(h0, .inr (3, [.null, .null, .null]))] sz) := by
  refine Met.ofW (cc := b_Ro_init) (maxL := 1) (ret := none) (by decide) rfl ?_
  intro p e s m args below meth c s₁ B hml hv
  obtain ⟨rfl, hsz, hP, hKC, hD0⟩ := hv
  have hx := B.exec
  have hb := B.bytes
  have hr := B.returns
  have hts := atoms_spec (ws := q_Ro_init :: wA) B.pre
  have hown : s.vm.findClass R_Ro = some m.cls := findClass_of_methodNamed B.named
  have hlocks := B.notSynchronized
  have hin : meth.name = "<init>" := (name_of_methodNamed B.named B.method).1
  subst hsz
  have hK : va_K D clA [(cI, .int), (cB, .byte)] s := hKC.1
  have hKN := hKC.2.1
  have hAO := hKC.2.2.1
  have hD := hD0.self (sz := s.heap.size)
  generalize hAe : va_A [(h0, .inr (3, [.null, .null, .null]))] s.heap.size = A at hD ⊢
  have hA : ∀ q : Nat, s.heap.size ≤ q → A q := fun q h => by rw [← hAe]; exact Or.inr h
  have hS : va_S A s.heap s.heap [] := va_S.rf
  have hl := lv_entry ([.ref (h0)]) (n := 1) (Nat.le_of_ble_eq_true rfl)
  rw [lg_entry_eq]
  generalize (lg_sl ([.ref (h0)]) ++ List.replicate (1 - (lg_sl ([.ref (h0)])).length) Slot.unset).toArray = ls at hl ⊢
  have hl : lv_has ls 1 [(0, .ref (h0))] := hl
  refine lv_aload_n hx hb d_Ro_init_0 rfl (lv_at hl 0 rfl) ?_
  refine W.objInit hx hb hown (hA_ hts lm_Ro_1) (hA_ hts im_obj) (hA_ hts kq_obj) rfl (by rw [hml]; exact hl.1) rfl d_Ro_init_1 (Nat.le_of_ble_eq_true rfl) (Nat.le_of_ble_eq_true rfl) ?_
  refine W.eq (g2 := F0 m 4 ls []) rfl ?_
  refine lv_aload_n hx hb d_Ro_init_4 rfl (lv_at hl 0 rfl) ?_
  refine va_new (ci := 1) (fs := [.null, .int 0]) (C := R_Na) (T := F_Na) (N := 2) hx hb hts (fun w h => List.mem_cons_of_mem _ (i_Na w h)) t_Na t_Na_ok hown (hA_ hts lc_Ro_7) (hA_ hts it_Na) (hA_ hts in_Na) hK hP hD hS hA rfl bl_Na (Nat.le_of_ble_eq_true rfl) (Nat.le_of_ble_eq_true rfl) d_Ro_init_5 (fun q1 H hP hD hS => ?_)
  have hP : va_P D clA [(h0, .inr (3, [.null, .null, .null])), (q1, .inr (1, [.null, .int 0]))] H := hP
  have hD : va_D A [(h0, .inr (3, [.null, .null, .null])), (q1, .inr (1, [.null, .int 0]))] := hD
  refine lv_dup hx hb d_Ro_init_8 rfl ?_
  have hPc := hP.sub (ws' := [(q1, .inr (1, [.null, .int 0]))]) [1] rfl
  have hDc := hD.sub (ws' := [(q1, .inr (1, [.null, .int 0]))]) [1] (by decide) rfl
  have hFc := va_free (wc := [(q1, .inr (1, [.null, .int 0]))]) hD hS hA [1] rfl
  refine va_callv (va_runIN (As := []) (rest := [.ref (q1), .ref (h0)]) ⟨hx, hb, hml, hown, hts⟩ (c_Na_init l q1 H.size) ⟨va_cnB 0 hts (gA kq_Na_init) rfl rfl rfl (hKN _ nN_3) (hA_ hts in_Na) (by decide +kernel) ⟨Nat.le_of_ble_eq_true rfl, Nat.le_of_ble_eq_true rfl⟩, rfl, hA_ hts im_Na_init⟩ ⟨KC_blind, fun U hU hW => ⟨rfl, by rw [hU], by rw [hU]; exact hPc, KC_warm hW hKC, hDc.weaken (fun _ _ _ _ => trivial)⟩⟩ rfl rfl hl.1 rfl (lv_room (Nat.le_of_ble_eq_true rfl)) d_Ro_init_9 ⟨Nat.le_of_ble_eq_true rfl, Nat.le_of_ble_eq_true rfl⟩) hS (fun q _ h => hFc q h) hFc (fun u t H1 locs ht hvm _ hB hz1 hk1 hS => ?_)
  obtain ⟨hP1, hD1⟩ := hB
  rw [ht] at hP1
  obtain ⟨nq1, rfl⟩ : ∃ z, z = u := ⟨_, rfl⟩
  obtain ⟨hP, hD⟩ := va_join (wr := [(h0, .inr (3, [.null, .null, .null]))]) (w1 := [(q1, .inr (1, [.ref (nq1), .int (nI (0))])), (nq1, .inl (cI, 6272, .inl (fun _ => 0)))]) hP hD [1] [0] rfl rfl (by decide) (by decide) hk1 hFc hP1 hD1
  generalize H1 = H at hP hS ⊢
  have hP : va_P D clA [(h0, .inr (3, [.null, .null, .null])), (q1, .inr (1, [.ref (nq1), .int (nI (0))])), (nq1, .inl (cI, 6272, .inl (fun _ => 0)))] H := hP
  have hD : va_D A [(h0, .inr (3, [.null, .null, .null])), (q1, .inr (1, [.ref (nq1), .int (nI (0))])), (nq1, .inl (cI, 6272, .inl (fun _ => 0)))] := hD
  refine va_putF (D := D) (ci := 3) (v := .ref (q1)) (ty := .object "LimbWorks$Natural") (C := R_Ro) (T := F_Ro) (N := 3) hx hb hts (fun w h => List.mem_cons_of_mem _ (i_Ro w h)) t_Ro t_Ro_ok n_Ro hown hK hP hD hS 0 rfl rfl 0 (by decide) (hA_ hts lf_Ro_10) (fun _ h9 => h9) rfl hin rfl (by decide +kernel) rfl rfl (Nat.le_of_ble_eq_true rfl) d_Ro_init_12 (fun H locs hP hD hS => ?_)
  have hP : va_P D clA [(h0, .inr (3, [.ref (q1), .null, .null])), (q1, .inr (1, [.ref (nq1), .int (nI (0))])), (nq1, .inl (cI, 6272, .inl (fun _ => 0)))] H := hP
  have hD : va_D A [(h0, .inr (3, [.ref (q1), .null, .null])), (q1, .inr (1, [.ref (nq1), .int (nI (0))])), (nq1, .inl (cI, 6272, .inl (fun _ => 0)))] := hD
  refine lv_aload_n hx hb d_Ro_init_15 rfl (lv_at hl 0 rfl) ?_
  refine va_new (ci := 1) (fs := [.null, .int 0]) (C := R_Na) (T := F_Na) (N := 2) hx hb hts (fun w h => List.mem_cons_of_mem _ (i_Na w h)) t_Na t_Na_ok hown (hA_ hts lc_Ro_7) (hA_ hts it_Na) (hA_ hts in_Na) hK hP hD hS hA rfl bl_Na (Nat.le_of_ble_eq_true rfl) (Nat.le_of_ble_eq_true rfl) d_Ro_init_16 (fun q2 H hP hD hS => ?_)
  have hP : va_P D clA [(h0, .inr (3, [.ref (q1), .null, .null])), (q1, .inr (1, [.ref (nq1), .int (nI (0))])), (nq1, .inl (cI, 6272, .inl (fun _ => 0))), (q2, .inr (1, [.null, .int 0]))] H := hP
  have hD : va_D A [(h0, .inr (3, [.ref (q1), .null, .null])), (q1, .inr (1, [.ref (nq1), .int (nI (0))])), (nq1, .inl (cI, 6272, .inl (fun _ => 0))), (q2, .inr (1, [.null, .int 0]))] := hD
  refine lv_dup hx hb d_Ro_init_19 rfl ?_
  have hPc := hP.sub (ws' := [(q2, .inr (1, [.null, .int 0]))]) [3] rfl
  have hDc := hD.sub (ws' := [(q2, .inr (1, [.null, .int 0]))]) [3] (by decide) rfl
  have hFc := va_free (wc := [(q2, .inr (1, [.null, .int 0]))]) hD hS hA [3] rfl
  refine va_callv (va_runIN (As := []) (rest := [.ref (q2), .ref (h0)]) ⟨hx, hb, hml, hown, hts⟩ (c_Na_init l q2 H.size) ⟨va_cnB 0 hts (gA kq_Na_init) rfl rfl rfl (hKN _ nN_3) (hA_ hts in_Na) (by decide +kernel) ⟨Nat.le_of_ble_eq_true rfl, Nat.le_of_ble_eq_true rfl⟩, rfl, hA_ hts im_Na_init⟩ ⟨KC_blind, fun U hU hW => ⟨rfl, by rw [hU], by rw [hU]; exact hPc, KC_warm hW hKC, hDc.weaken (fun _ _ _ _ => trivial)⟩⟩ rfl rfl hl.1 rfl (lv_room (Nat.le_of_ble_eq_true rfl)) d_Ro_init_20 ⟨Nat.le_of_ble_eq_true rfl, Nat.le_of_ble_eq_true rfl⟩) hS (fun q _ h => hFc q h) hFc (fun u t H1 locs ht hvm _ hB hz1 hk1 hS => ?_)
  obtain ⟨hP1, hD1⟩ := hB
  rw [ht] at hP1
  obtain ⟨nq2, rfl⟩ : ∃ z, z = u := ⟨_, rfl⟩
  obtain ⟨hP, hD⟩ := va_join (wr := [(h0, .inr (3, [.ref (q1), .null, .null])), (q1, .inr (1, [.ref (nq1), .int (nI (0))])), (nq1, .inl (cI, 6272, .inl (fun _ => 0)))]) (w1 := [(q2, .inr (1, [.ref (nq2), .int (nI (0))])), (nq2, .inl (cI, 6272, .inl (fun _ => 0)))]) hP hD [3] [0, 1, 2] rfl rfl (by decide) (by decide) hk1 hFc hP1 hD1
  generalize H1 = H at hP hS ⊢
  have hP : va_P D clA [(h0, .inr (3, [.ref (q1), .null, .null])), (q1, .inr (1, [.ref (nq1), .int (nI (0))])), (nq1, .inl (cI, 6272, .inl (fun _ => 0))), (q2, .inr (1, [.ref (nq2), .int (nI (0))])), (nq2, .inl (cI, 6272, .inl (fun _ => 0)))] H := hP
  have hD : va_D A [(h0, .inr (3, [.ref (q1), .null, .null])), (q1, .inr (1, [.ref (nq1), .int (nI (0))])), (nq1, .inl (cI, 6272, .inl (fun _ => 0))), (q2, .inr (1, [.ref (nq2), .int (nI (0))])), (nq2, .inl (cI, 6272, .inl (fun _ => 0)))] := hD
  refine va_putF (D := D) (ci := 3) (v := .ref (q2)) (ty := .object "LimbWorks$Natural") (C := R_Ro) (T := F_Ro) (N := 3) hx hb hts (fun w h => List.mem_cons_of_mem _ (i_Ro w h)) t_Ro t_Ro_ok n_Ro hown hK hP hD hS 0 rfl rfl 1 (by decide) (hA_ hts lf_Ro_16) (fun _ h9 => h9) rfl hin rfl (by decide +kernel) rfl rfl (Nat.le_of_ble_eq_true rfl) d_Ro_init_23 (fun H locs hP hD hS => ?_)
  have hP : va_P D clA [(h0, .inr (3, [.ref (q1), .ref (q2), .null])), (q1, .inr (1, [.ref (nq1), .int (nI (0))])), (nq1, .inl (cI, 6272, .inl (fun _ => 0))), (q2, .inr (1, [.ref (nq2), .int (nI (0))])), (nq2, .inl (cI, 6272, .inl (fun _ => 0)))] H := hP
  have hD : va_D A [(h0, .inr (3, [.ref (q1), .ref (q2), .null])), (q1, .inr (1, [.ref (nq1), .int (nI (0))])), (nq1, .inl (cI, 6272, .inl (fun _ => 0))), (q2, .inr (1, [.ref (nq2), .int (nI (0))])), (nq2, .inl (cI, 6272, .inl (fun _ => 0)))] := hD
  refine lv_aload_n hx hb d_Ro_init_26 rfl (lv_at hl 0 rfl) ?_
  refine va_new (ci := 1) (fs := [.null, .int 0]) (C := R_Na) (T := F_Na) (N := 2) hx hb hts (fun w h => List.mem_cons_of_mem _ (i_Na w h)) t_Na t_Na_ok hown (hA_ hts lc_Ro_7) (hA_ hts it_Na) (hA_ hts in_Na) hK hP hD hS hA rfl bl_Na (Nat.le_of_ble_eq_true rfl) (Nat.le_of_ble_eq_true rfl) d_Ro_init_27 (fun q3 H hP hD hS => ?_)
  have hP : va_P D clA [(h0, .inr (3, [.ref (q1), .ref (q2), .null])), (q1, .inr (1, [.ref (nq1), .int (nI (0))])), (nq1, .inl (cI, 6272, .inl (fun _ => 0))), (q2, .inr (1, [.ref (nq2), .int (nI (0))])), (nq2, .inl (cI, 6272, .inl (fun _ => 0))), (q3, .inr (1, [.null, .int 0]))] H := hP
  have hD : va_D A [(h0, .inr (3, [.ref (q1), .ref (q2), .null])), (q1, .inr (1, [.ref (nq1), .int (nI (0))])), (nq1, .inl (cI, 6272, .inl (fun _ => 0))), (q2, .inr (1, [.ref (nq2), .int (nI (0))])), (nq2, .inl (cI, 6272, .inl (fun _ => 0))), (q3, .inr (1, [.null, .int 0]))] := hD
  refine lv_dup hx hb d_Ro_init_30 rfl ?_
  have hPc := hP.sub (ws' := [(q3, .inr (1, [.null, .int 0]))]) [5] rfl
  have hDc := hD.sub (ws' := [(q3, .inr (1, [.null, .int 0]))]) [5] (by decide) rfl
  have hFc := va_free (wc := [(q3, .inr (1, [.null, .int 0]))]) hD hS hA [5] rfl
  refine va_callv (va_runIN (As := []) (rest := [.ref (q3), .ref (h0)]) ⟨hx, hb, hml, hown, hts⟩ (c_Na_init l q3 H.size) ⟨va_cnB 0 hts (gA kq_Na_init) rfl rfl rfl (hKN _ nN_3) (hA_ hts in_Na) (by decide +kernel) ⟨Nat.le_of_ble_eq_true rfl, Nat.le_of_ble_eq_true rfl⟩, rfl, hA_ hts im_Na_init⟩ ⟨KC_blind, fun U hU hW => ⟨rfl, by rw [hU], by rw [hU]; exact hPc, KC_warm hW hKC, hDc.weaken (fun _ _ _ _ => trivial)⟩⟩ rfl rfl hl.1 rfl (lv_room (Nat.le_of_ble_eq_true rfl)) d_Ro_init_31 ⟨Nat.le_of_ble_eq_true rfl, Nat.le_of_ble_eq_true rfl⟩) hS (fun q _ h => hFc q h) hFc (fun u t H1 locs ht hvm _ hB hz1 hk1 hS => ?_)
  obtain ⟨hP1, hD1⟩ := hB
  rw [ht] at hP1
  obtain ⟨nq3, rfl⟩ : ∃ z, z = u := ⟨_, rfl⟩
  obtain ⟨hP, hD⟩ := va_join (wr := [(h0, .inr (3, [.ref (q1), .ref (q2), .null])), (q1, .inr (1, [.ref (nq1), .int (nI (0))])), (nq1, .inl (cI, 6272, .inl (fun _ => 0))), (q2, .inr (1, [.ref (nq2), .int (nI (0))])), (nq2, .inl (cI, 6272, .inl (fun _ => 0)))]) (w1 := [(q3, .inr (1, [.ref (nq3), .int (nI (0))])), (nq3, .inl (cI, 6272, .inl (fun _ => 0)))]) hP hD [5] [0, 1, 2, 3, 4] rfl rfl (by decide) (by decide) hk1 hFc hP1 hD1
  generalize H1 = H at hP hS ⊢
  have hP : va_P D clA [(h0, .inr (3, [.ref (q1), .ref (q2), .null])), (q1, .inr (1, [.ref (nq1), .int (nI (0))])), (nq1, .inl (cI, 6272, .inl (fun _ => 0))), (q2, .inr (1, [.ref (nq2), .int (nI (0))])), (nq2, .inl (cI, 6272, .inl (fun _ => 0))), (q3, .inr (1, [.ref (nq3), .int (nI (0))])), (nq3, .inl (cI, 6272, .inl (fun _ => 0)))] H := hP
  have hD : va_D A [(h0, .inr (3, [.ref (q1), .ref (q2), .null])), (q1, .inr (1, [.ref (nq1), .int (nI (0))])), (nq1, .inl (cI, 6272, .inl (fun _ => 0))), (q2, .inr (1, [.ref (nq2), .int (nI (0))])), (nq2, .inl (cI, 6272, .inl (fun _ => 0))), (q3, .inr (1, [.ref (nq3), .int (nI (0))])), (nq3, .inl (cI, 6272, .inl (fun _ => 0)))] := hD
  refine va_putF (D := D) (ci := 3) (v := .ref (q3)) (ty := .object "LimbWorks$Natural") (C := R_Ro) (T := F_Ro) (N := 3) hx hb hts (fun w h => List.mem_cons_of_mem _ (i_Ro w h)) t_Ro t_Ro_ok n_Ro hown hK hP hD hS 0 rfl rfl 2 (by decide) (hA_ hts lf_Ro_19) (fun _ h9 => h9) rfl hin rfl (by decide +kernel) rfl rfl (Nat.le_of_ble_eq_true rfl) d_Ro_init_34 (fun H locs hP hD hS => ?_)
  have hP : va_P D clA [(h0, .inr (3, [.ref (q1), .ref (q2), .ref (q3)])), (q1, .inr (1, [.ref (nq1), .int (nI (0))])), (nq1, .inl (cI, 6272, .inl (fun _ => 0))), (q2, .inr (1, [.ref (nq2), .int (nI (0))])), (nq2, .inl (cI, 6272, .inl (fun _ => 0))), (q3, .inr (1, [.ref (nq3), .int (nI (0))])), (nq3, .inl (cI, 6272, .inl (fun _ => 0)))] H := hP
  have hD : va_D A [(h0, .inr (3, [.ref (q1), .ref (q2), .ref (q3)])), (q1, .inr (1, [.ref (nq1), .int (nI (0))])), (nq1, .inl (cI, 6272, .inl (fun _ => 0))), (q2, .inr (1, [.ref (nq2), .int (nI (0))])), (nq2, .inl (cI, 6272, .inl (fun _ => 0))), (q3, .inr (1, [.ref (nq3), .int (nI (0))])), (nq3, .inl (cI, 6272, .inl (fun _ => 0)))] := hD
  have hP9 := hP.sub (ws' := [(h0, .inr (3, [.ref (q1), .ref (q2), .ref (q3)])), (q1, .inr (1, [.ref (nq1), .int (nI (0))])), (nq1, .inl (cI, 6272, .inl (fun _ => 0))), (q2, .inr (1, [.ref (nq2), .int (nI (0))])), (nq2, .inl (cI, 6272, .inl (fun _ => 0))), (q3, .inr (1, [.ref (nq3), .int (nI (0))])), (nq3, .inl (cI, 6272, .inl (fun _ => 0)))]) [0, 1, 2, 3, 4, 5, 6] rfl
  have hD9 := hD.sub (ws' := [(h0, .inr (3, [.ref (q1), .ref (q2), .ref (q3)])), (q1, .inr (1, [.ref (nq1), .int (nI (0))])), (nq1, .inl (cI, 6272, .inl (fun _ => 0))), (q2, .inr (1, [.ref (nq2), .int (nI (0))])), (nq2, .inl (cI, 6272, .inl (fun _ => 0))), (q3, .inr (1, [.ref (nq3), .int (nI (0))])), (nq3, .inl (cI, 6272, .inl (fun _ => 0)))]) [0, 1, 2, 3, 4, 5, 6] (by decide) rfl
  refine W.widen (k := 6) (n := 18822) (Nat.le_of_ble_eq_true rfl) (Nat.le_of_ble_eq_true rfl) ?_
  exact W.vret hx hb hr (fun t ht hW => ⟨⟨(fun z => [q1, nq1, q2, nq2, q3, nq3].getD z 0), rfl, trivial, by rw [ht]; exact hP9, hD9⟩, hS.F ht⟩) hS.2.2 d_Ro_init_37
set_option maxHeartbeats 8000000 in
set_option maxRecDepth 100000 in
theorem c_Mn_init (l : Launch) {D : va_G} {cI cB : ClassId} (h0 sz : Nat) : Met l y_Mn_init (q_Mn_init :: wA) { frames := 1, cells := 1, slots := 6800, locals := 30 } (va_Pc [.ref (h0), .int (nI (6800))] (fun U => U.heap.size = sz ∧ va_P D clA [(h0, .inr (5, [.null, .int 0]))] U.heap ∧ KC D cI cB U ∧ va_D (fun _ => True) [(h0, .inr (5, [.null, .int 0]))])) (va_Qv (fun _ : Nat => True) (fun u t => va_P D clA [(h0, .inr (5, [.ref (u), .int 0])), (u, .inl (cI, 6800, .inl (fun _ => 0)))] t.heap ∧ va_D (va_A [(h0, .inr (5, [.null, .int 0]))] sz) [(h0, .inr (5, [.ref (u), .int 0])), (u, .inl (cI, 6800, .inl (fun _ => 0)))]) (va_A [(h0, .inr (5, [.null, .int 0]))] sz)) 1 6800 (va_A [(h0, .inr (5, [.null, .int 0]))] sz) := by
  refine Met.ofW (cc := b_Mn_init) (maxL := 2) (ret := none) (by decide) rfl ?_
  intro p e s m args below meth c s₁ B hml hv
  obtain ⟨rfl, hsz, hP, hKC, hD0⟩ := hv
  have hx := B.exec
  have hb := B.bytes
  have hr := B.returns
  have hts := atoms_spec (ws := q_Mn_init :: wA) B.pre
  have hown : s.vm.findClass R_Mn = some m.cls := findClass_of_methodNamed B.named
  have hlocks := B.notSynchronized
  have hin : meth.name = "<init>" := (name_of_methodNamed B.named B.method).1
  subst hsz
  have hK : va_K D clA [(cI, .int), (cB, .byte)] s := hKC.1
  have hKN := hKC.2.1
  have hAO := hKC.2.2.1
  have hD := hD0.self (sz := s.heap.size)
  generalize hAe : va_A [(h0, .inr (5, [.null, .int 0]))] s.heap.size = A at hD ⊢
  have hA : ∀ q : Nat, s.heap.size ≤ q → A q := fun q h => by rw [← hAe]; exact Or.inr h
  have hS : va_S A s.heap s.heap [] := va_S.rf
  have hl := lv_entry ([.ref (h0), .int (nI (6800))]) (n := 2) (Nat.le_of_ble_eq_true rfl)
  rw [lg_entry_eq]
  generalize (lg_sl ([.ref (h0), .int (nI (6800))]) ++ List.replicate (2 - (lg_sl ([.ref (h0), .int (nI (6800))])).length) Slot.unset).toArray = ls at hl ⊢
  have hl : lv_has ls 2 [(0, .ref (h0)), (1, .int (nI (6800)))] := hl
  refine lv_aload_n hx hb d_Mn_init_0 rfl (lv_at hl 0 rfl) ?_
  refine W.objInit hx hb hown (hA_ hts lm_Mn_3) (hA_ hts im_obj) (hA_ hts kq_obj) rfl (by rw [hml]; exact hl.1) rfl d_Mn_init_1 (Nat.le_of_ble_eq_true rfl) (Nat.le_of_ble_eq_true rfl) ?_
  refine W.eq (g2 := F0 m 4 ls []) rfl ?_
  refine lv_aload_n hx hb d_Mn_init_4 rfl (lv_at hl 0 rfl) ?_
  refine lv_iload_n hx hb d_Mn_init_5 rfl (lv_at hl 1 rfl) ?_
  refine va_newa (atype := .int) hx hb (hA_ hts ac_int) (ty := .int) rfl hK hP hD hS hA (a0 := (6800, .inl (fun _ => 0))) (fun cA => rfl) (by decide) (N' := 6800) (by decide) (by decide) (Nat.le_of_ble_eq_true rfl) (Nat.le_of_ble_eq_true rfl) d_Mn_init_6 (fun q1 cA9 H hK9 hP hD hS => ?_)
  have hcA : cA9 = cI := ra_int hK9 2 hK 0 rfl rfl
  rw [hcA] at hP hD
  have hP : va_P D clA [(h0, .inr (5, [.null, .int 0])), (q1, .inl (cI, 6800, .inl (fun _ => 0)))] H := hP
  have hD : va_D A [(h0, .inr (5, [.null, .int 0])), (q1, .inl (cI, 6800, .inl (fun _ => 0)))] := hD
  refine va_putF (D := D) (ci := 5) (v := .ref (q1)) (ty := .array (.int)) (C := R_Mn) (T := F_Mn) (N := 2) hx hb hts (fun w h => List.mem_cons_of_mem _ (i_Mn w h)) t_Mn t_Mn_ok n_Mn hown hK hP hD hS 0 rfl rfl 0 (by decide) (hA_ hts lf_Mn_9) (fun _ h9 => h9) rfl hin rfl (by decide +kernel) rfl rfl (Nat.le_of_ble_eq_true rfl) d_Mn_init_8 (fun H locs hP hD hS => ?_)
  have hP : va_P D clA [(h0, .inr (5, [.ref (q1), .int 0])), (q1, .inl (cI, 6800, .inl (fun _ => 0)))] H := hP
  have hD : va_D A [(h0, .inr (5, [.ref (q1), .int 0])), (q1, .inl (cI, 6800, .inl (fun _ => 0)))] := hD
  have hP9 := hP.sub (ws' := [(h0, .inr (5, [.ref (q1), .int 0])), (q1, .inl (cI, 6800, .inl (fun _ => 0)))]) [0, 1] rfl
  have hD9 := hD.sub (ws' := [(h0, .inr (5, [.ref (q1), .int 0])), (q1, .inl (cI, 6800, .inl (fun _ => 0)))]) [0, 1] (by decide) rfl
  refine W.widen (k := 1) (n := 6800) (Nat.le_of_ble_eq_true rfl) (Nat.le_of_ble_eq_true rfl) ?_
  exact W.vret hx hb hr (fun t ht hW => ⟨⟨q1, rfl, trivial, by rw [ht]; exact hP9, hD9⟩, hS.F ht⟩) hS.2.2 d_Mn_init_11

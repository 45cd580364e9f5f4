/-! THROWS: the words that each needs -/
abbrev sups : List String := ["java/lang/RuntimeException", "java/lang/Exception"]
abbrev E_IA : String := "java/lang/IllegalArgumentException"
abbrev E_IS : String := "java/lang/IllegalStateException"
abbrev E_AR : String := "java/lang/ArithmeticException"
abbrev E_UO : String := "java/lang/UnsupportedOperationException"
abbrev E_NS : String := "java/util/NoSuchElementException"
theorem inAll {L : List Cond} (h : (L.filter goodWord).all (fun w => lw_tbl.any (fun v => decide (v = w))) = true) : ∀ w ∈ L.filter goodWord, w ∈ wA := by
  intro w hw
  have h1 := List.all_eq_true.mp h w hw
  obtain ⟨v, hv, hvw⟩ := List.any_eq_true.mp h1
  have e : v = w := of_decide_eq_true hvw
  subst e
  exact List.mem_filter.mpr ⟨hv, (List.mem_filter.mp hw).2⟩
theorem inAllB {L : List Cond} (h : (L.filter (fun w => !goodWord w)).all (fun w => wB.any (fun v => decide (v = w))) = true) : ∀ w ∈ L.filter (fun w => !goodWord w), w ∈ wB := by
  intro w hw
  have h1 := List.all_eq_true.mp h w hw
  obtain ⟨v, hv, hvw⟩ := List.any_eq_true.mp h1
  have e : v = w := of_decide_eq_true hvw
  subst e
  exact hv
theorem inAllO {L : List Cond} (h : L.all vx_ot = true) : ∀ w ∈ L, vx_ot w = true := fun w hw => List.all_eq_true.mp h w hw
set_option maxRecDepth 100000 in
theorem ta_Lw_IA : ∀ w ∈ (vx_at0 "LimbWorks" 161 E_IA sups).filter goodWord, w ∈ wA := inAll (by decide +kernel)
theorem tb_Lw_IA : ∀ w ∈ (vx_at0 "LimbWorks" 161 E_IA sups).filter (fun w => !goodWord w), w ∈ wB := inAllB (by decide +kernel)
theorem tg_Lw_IA : ∀ w ∈ Cond.classLink "LimbWorks" 159 E_IA :: Cond.initialized E_IA :: vx_at0 "LimbWorks" 161 E_IA sups, vx_ot w = true := inAllO (by decide +kernel)
theorem tk_Lw_IA : Cond.classLink "LimbWorks" 159 E_IA ∈ wA := by
  refine List.mem_filter.mpr ⟨?_, rfl⟩
  have h : (lw_tbl.any (fun v => decide (v = Cond.classLink "LimbWorks" 159 E_IA))) = true := by decide +kernel
  obtain ⟨v, hv, hvw⟩ := List.any_eq_true.mp h
  exact (of_decide_eq_true hvw) ▸ hv
set_option maxRecDepth 100000 in
theorem ta_Lw_IS : ∀ w ∈ (vx_at0 "LimbWorks" 164 E_IS sups).filter goodWord, w ∈ wA := inAll (by decide +kernel)
theorem tb_Lw_IS : ∀ w ∈ (vx_at0 "LimbWorks" 164 E_IS sups).filter (fun w => !goodWord w), w ∈ wB := inAllB (by decide +kernel)
theorem tg_Lw_IS : ∀ w ∈ Cond.classLink "LimbWorks" 162 E_IS :: Cond.initialized E_IS :: vx_at0 "LimbWorks" 164 E_IS sups, vx_ot w = true := inAllO (by decide +kernel)
theorem tk_Lw_IS : Cond.classLink "LimbWorks" 162 E_IS ∈ wA := by
  refine List.mem_filter.mpr ⟨?_, rfl⟩
  have h : (lw_tbl.any (fun v => decide (v = Cond.classLink "LimbWorks" 162 E_IS))) = true := by decide +kernel
  obtain ⟨v, hv, hvw⟩ := List.any_eq_true.mp h
  exact (of_decide_eq_true hvw) ▸ hv
set_option maxRecDepth 100000 in
theorem ta_Lw_AR : ∀ w ∈ (vx_at0 "LimbWorks" 92 E_AR sups).filter goodWord, w ∈ wA := inAll (by decide +kernel)
theorem tb_Lw_AR : ∀ w ∈ (vx_at0 "LimbWorks" 92 E_AR sups).filter (fun w => !goodWord w), w ∈ wB := inAllB (by decide +kernel)
theorem tg_Lw_AR : ∀ w ∈ Cond.classLink "LimbWorks" 90 E_AR :: Cond.initialized E_AR :: vx_at0 "LimbWorks" 92 E_AR sups, vx_ot w = true := inAllO (by decide +kernel)
theorem tk_Lw_AR : Cond.classLink "LimbWorks" 90 E_AR ∈ wA := by
  refine List.mem_filter.mpr ⟨?_, rfl⟩
  have h : (lw_tbl.any (fun v => decide (v = Cond.classLink "LimbWorks" 90 E_AR))) = true := by decide +kernel
  obtain ⟨v, hv, hvw⟩ := List.any_eq_true.mp h
  exact (of_decide_eq_true hvw) ▸ hv
set_option maxRecDepth 100000 in
theorem ta_Lw_UO : ∀ w ∈ (vx_at0 "LimbWorks" 130 E_UO sups).filter goodWord, w ∈ wA := inAll (by decide +kernel)
theorem tb_Lw_UO : ∀ w ∈ (vx_at0 "LimbWorks" 130 E_UO sups).filter (fun w => !goodWord w), w ∈ wB := inAllB (by decide +kernel)
theorem tg_Lw_UO : ∀ w ∈ Cond.classLink "LimbWorks" 128 E_UO :: Cond.initialized E_UO :: vx_at0 "LimbWorks" 130 E_UO sups, vx_ot w = true := inAllO (by decide +kernel)
theorem tk_Lw_UO : Cond.classLink "LimbWorks" 128 E_UO ∈ wA := by
  refine List.mem_filter.mpr ⟨?_, rfl⟩
  have h : (lw_tbl.any (fun v => decide (v = Cond.classLink "LimbWorks" 128 E_UO))) = true := by decide +kernel
  obtain ⟨v, hv, hvw⟩ := List.any_eq_true.mp h
  exact (of_decide_eq_true hvw) ▸ hv
set_option maxRecDepth 100000 in
theorem ta_Lw_NS : ∀ w ∈ (vx_at0 "LimbWorks" 158 E_NS sups).filter goodWord, w ∈ wA := inAll (by decide +kernel)
theorem tb_Lw_NS : ∀ w ∈ (vx_at0 "LimbWorks" 158 E_NS sups).filter (fun w => !goodWord w), w ∈ wB := inAllB (by decide +kernel)
theorem tg_Lw_NS : ∀ w ∈ Cond.classLink "LimbWorks" 156 E_NS :: Cond.initialized E_NS :: vx_at0 "LimbWorks" 158 E_NS sups, vx_ot w = true := inAllO (by decide +kernel)
theorem tk_Lw_NS : Cond.classLink "LimbWorks" 156 E_NS ∈ wA := by
  refine List.mem_filter.mpr ⟨?_, rfl⟩
  have h : (lw_tbl.any (fun v => decide (v = Cond.classLink "LimbWorks" 156 E_NS))) = true := by decide +kernel
  obtain ⟨v, hv, hvw⟩ := List.any_eq_true.mp h
  exact (of_decide_eq_true hvw) ▸ hv
set_option maxRecDepth 100000 in
theorem ta_Mo_IA : ∀ w ∈ (vx_at0 "LimbWorksModel" 55 E_IA sups).filter goodWord, w ∈ wA := inAll (by decide +kernel)
theorem tb_Mo_IA : ∀ w ∈ (vx_at0 "LimbWorksModel" 55 E_IA sups).filter (fun w => !goodWord w), w ∈ wB := inAllB (by decide +kernel)
theorem tg_Mo_IA : ∀ w ∈ Cond.classLink "LimbWorksModel" 53 E_IA :: Cond.initialized E_IA :: vx_at0 "LimbWorksModel" 55 E_IA sups, vx_ot w = true := inAllO (by decide +kernel)
theorem tk_Mo_IA : Cond.classLink "LimbWorksModel" 53 E_IA ∈ wA := by
  refine List.mem_filter.mpr ⟨?_, rfl⟩
  have h : (lw_tbl.any (fun v => decide (v = Cond.classLink "LimbWorksModel" 53 E_IA))) = true := by decide +kernel
  obtain ⟨v, hv, hvw⟩ := List.any_eq_true.mp h
  exact (of_decide_eq_true hvw) ▸ hv
set_option maxRecDepth 100000 in
theorem ta_Mo_IS : ∀ w ∈ (vx_at0 "LimbWorksModel" 68 E_IS sups).filter goodWord, w ∈ wA := inAll (by decide +kernel)
theorem tb_Mo_IS : ∀ w ∈ (vx_at0 "LimbWorksModel" 68 E_IS sups).filter (fun w => !goodWord w), w ∈ wB := inAllB (by decide +kernel)
theorem tg_Mo_IS : ∀ w ∈ Cond.classLink "LimbWorksModel" 66 E_IS :: Cond.initialized E_IS :: vx_at0 "LimbWorksModel" 68 E_IS sups, vx_ot w = true := inAllO (by decide +kernel)
theorem tk_Mo_IS : Cond.classLink "LimbWorksModel" 66 E_IS ∈ wA := by
  refine List.mem_filter.mpr ⟨?_, rfl⟩
  have h : (lw_tbl.any (fun v => decide (v = Cond.classLink "LimbWorksModel" 66 E_IS))) = true := by decide +kernel
  obtain ⟨v, hv, hvw⟩ := List.any_eq_true.mp h
  exact (of_decide_eq_true hvw) ▸ hv
set_option maxRecDepth 100000 in
theorem ta_Mo_AR : ∀ w ∈ (vx_at0 "LimbWorksModel" 111 E_AR sups).filter goodWord, w ∈ wA := inAll (by decide +kernel)
theorem tb_Mo_AR : ∀ w ∈ (vx_at0 "LimbWorksModel" 111 E_AR sups).filter (fun w => !goodWord w), w ∈ wB := inAllB (by decide +kernel)
theorem tg_Mo_AR : ∀ w ∈ Cond.classLink "LimbWorksModel" 109 E_AR :: Cond.initialized E_AR :: vx_at0 "LimbWorksModel" 111 E_AR sups, vx_ot w = true := inAllO (by decide +kernel)
theorem tk_Mo_AR : Cond.classLink "LimbWorksModel" 109 E_AR ∈ wA := by
  refine List.mem_filter.mpr ⟨?_, rfl⟩
  have h : (lw_tbl.any (fun v => decide (v = Cond.classLink "LimbWorksModel" 109 E_AR))) = true := by decide +kernel
  obtain ⟨v, hv, hvw⟩ := List.any_eq_true.mp h
  exact (of_decide_eq_true hvw) ▸ hv
set_option maxRecDepth 100000 in
theorem ta_Mo_UO : ∀ w ∈ (vx_at0 "LimbWorksModel" 174 E_UO sups).filter goodWord, w ∈ wA := inAll (by decide +kernel)
theorem tb_Mo_UO : ∀ w ∈ (vx_at0 "LimbWorksModel" 174 E_UO sups).filter (fun w => !goodWord w), w ∈ wB := inAllB (by decide +kernel)
theorem tg_Mo_UO : ∀ w ∈ Cond.classLink "LimbWorksModel" 172 E_UO :: Cond.initialized E_UO :: vx_at0 "LimbWorksModel" 174 E_UO sups, vx_ot w = true := inAllO (by decide +kernel)
theorem tk_Mo_UO : Cond.classLink "LimbWorksModel" 172 E_UO ∈ wA := by
  refine List.mem_filter.mpr ⟨?_, rfl⟩
  have h : (lw_tbl.any (fun v => decide (v = Cond.classLink "LimbWorksModel" 172 E_UO))) = true := by decide +kernel
  obtain ⟨v, hv, hvw⟩ := List.any_eq_true.mp h
  exact (of_decide_eq_true hvw) ▸ hv
set_option maxRecDepth 100000 in
theorem ta_Mo_NS : ∀ w ∈ (vx_at0 "LimbWorksModel" 182 E_NS sups).filter goodWord, w ∈ wA := inAll (by decide +kernel)
theorem tb_Mo_NS : ∀ w ∈ (vx_at0 "LimbWorksModel" 182 E_NS sups).filter (fun w => !goodWord w), w ∈ wB := inAllB (by decide +kernel)
theorem tg_Mo_NS : ∀ w ∈ Cond.classLink "LimbWorksModel" 180 E_NS :: Cond.initialized E_NS :: vx_at0 "LimbWorksModel" 182 E_NS sups, vx_ot w = true := inAllO (by decide +kernel)
theorem tk_Mo_NS : Cond.classLink "LimbWorksModel" 180 E_NS ∈ wA := by
  refine List.mem_filter.mpr ⟨?_, rfl⟩
  have h : (lw_tbl.any (fun v => decide (v = Cond.classLink "LimbWorksModel" 180 E_NS))) = true := by decide +kernel
  obtain ⟨v, hv, hvw⟩ := List.any_eq_true.mp h
  exact (of_decide_eq_true hvw) ▸ hv
theorem ti_IA : Cond.initialized E_IA ∈ wA := by
  refine List.mem_filter.mpr ⟨?_, rfl⟩
  have h : (lw_tbl.any (fun v => decide (v = Cond.initialized E_IA))) = true := by decide +kernel
  obtain ⟨v, hv, hvw⟩ := List.any_eq_true.mp h
  exact (of_decide_eq_true hvw) ▸ hv
theorem ti_IS : Cond.initialized E_IS ∈ wA := by
  refine List.mem_filter.mpr ⟨?_, rfl⟩
  have h : (lw_tbl.any (fun v => decide (v = Cond.initialized E_IS))) = true := by decide +kernel
  obtain ⟨v, hv, hvw⟩ := List.any_eq_true.mp h
  exact (of_decide_eq_true hvw) ▸ hv
theorem ti_AR : Cond.initialized E_AR ∈ wA := by
  refine List.mem_filter.mpr ⟨?_, rfl⟩
  have h : (lw_tbl.any (fun v => decide (v = Cond.initialized E_AR))) = true := by decide +kernel
  obtain ⟨v, hv, hvw⟩ := List.any_eq_true.mp h
  exact (of_decide_eq_true hvw) ▸ hv
theorem ti_UO : Cond.initialized E_UO ∈ wA := by
  refine List.mem_filter.mpr ⟨?_, rfl⟩
  have h : (lw_tbl.any (fun v => decide (v = Cond.initialized E_UO))) = true := by decide +kernel
  obtain ⟨v, hv, hvw⟩ := List.any_eq_true.mp h
  exact (of_decide_eq_true hvw) ▸ hv
theorem ti_NS : Cond.initialized E_NS ∈ wA := by
  refine List.mem_filter.mpr ⟨?_, rfl⟩
  have h : (lw_tbl.any (fun v => decide (v = Cond.initialized E_NS))) = true := by decide +kernel
  obtain ⟨v, hv, hvw⟩ := List.any_eq_true.mp h
  exact (of_decide_eq_true hvw) ▸ hv

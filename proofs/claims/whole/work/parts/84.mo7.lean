/-! THE REFERENCE'S FACE: the seventeen wrappers, thrown() (rows laid by wip/whole/gen/c_mo7.py) -/
/-- what a wrapper starts from: besides, which exceptions the first row of its table lets pass -/
def NcA (U : State) : Prop := va_Nc E_IS E_IA U ∧ va_Nc E_AR E_IA U ∧ va_Nc E_UO E_IA U
def PMN (D : va_G) (cI cB cR : ClassId) (ad : Nat → Nat) (w : Mt) (sz : Nat) (U : State) : Prop := PM D cI cB cR ad w sz U ∧ NcA U
/-- nothing comes out as a throw -/
def FX : String → State → State → Prop := fun _ _ _ => False
def pw9 (R : Rs) (r : Int32) (u : Mt) : Prop := MI u R.2.2 ∧ mX u = R.1 ∧ (R.1 = 0 → r = R.2.1)
def pwl (R : Nat × Int64 × Ab) (r : Int64) (u : Mt) : Prop := MI u R.2.2 ∧ mX u = R.1 ∧ (R.1 = 0 → r = R.2.1)
theorem MI_X {w : Mt} {A : Ab} {n : Nat} (h : MI w A) : MI (qX w n) A := ⟨h.1, h.2.1, h.2.2.1, h.2.2.2⟩
section YC
variable {p : Program} {l : Launch} {e : Env} {R : Room} {s : State} {m : MethodId} {args : Array Value} {below : List Frame} {meth : Method} {c : Code} {H : Heap} {locs : List Loc} {cells slots mc ms : Nat} {Q : State → Prop}
variable {cc bytes : ByteArray} {pc nL maxL index n : Nat} {ls : Array Slot} {rest As st0 : List Value} {D : va_G} {cI cB cR : ClassId} {ad : Nat → Nat} {w : Mt} {own C : String} {c0 c2 : Cond} {y : MethodName} {ret : Option FieldType} {rm : Room} {b : Addr} {cond : String → Mt → Prop}
theorem yC_v {post : Mt → Prop} (S : CallFix p m c cc nL s args (c0 :: wA) own) (hM : vx_Met l y (c2 :: wA) rm (va_Pc (.ref b :: As) (PM D cI cB cR ad w H.size)) (va_Qv post (BM D cI cB cR ad) (AM ad H.size)) (XM D cI cB cR ad cond H.size) mc ms (AM ad H.size)) (cw : CallW R s args own C index y bytes maxL ret (c2 :: wA) rm mc ms n) (hrecv : ∃ cellB : Cell, H[b]? = some cellB ∧ cellB.vm.isStatics = false ∧ s.vm.findClass C = some cellB.cls) (hKW : KM D cI cB cR ad s) (hP : va_P D clA (NM cI cB cR ad w) H) (hD : va_D (AM ad s.heap.size) (NM cI cB cR ad w)) (hS : va_S (AM ad s.heap.size) s.heap H locs) (hn : As.length = n) (hsize : ls.size = nL) (hstack : st0 = As.reverse ++ .ref b :: rest) (hW : (rest.map fun v => v.category).sum ≤ 8) (hdg : decode cc pc = .ok (.invokevirtual index, 3)) (hf : cells + mc ≤ R.cells ∧ slots + ms ≤ R.slots)
    (kx : ∀ (E : String) (ce : Cell) (q9 : Addr) (u : Mt) (H1 : Heap) (locs1 : List Loc), cond E u → va_P D clA (NM cI cB cR ad u) H1 → va_D (AM ad s.heap.size) (NM cI cB cR ad u) → va_S (AM ad s.heap.size) s.heap H1 locs1 → H1[q9]? = some ce → ce.vm = .none → s.vm.findClass E = some ce.cls → vx_W p l e R s m args below meth c H1 locs1 (cells + mc) (slots + ms) Q (F0 m pc ls rest) q9)
    (kk : ∀ (u : Mt) (H1 : Heap) (locs1 : List Loc), post u → va_P D clA (NM cI cB cR ad u) H1 → va_D (AM ad s.heap.size) (NM cI cB cR ad u) → va_S (AM ad s.heap.size) s.heap H1 locs1 → W p l e R s m args below meth c H1 locs1 (cells + mc) (slots + ms) Q (F0 m (pc + 3) ls (rest))) : W p l e R s m args below meth c H locs cells slots Q (F0 m pc ls st0) :=
  vx_callv (vx_runV (g := F0 m pc ls st0) S hM cw ⟨PM_blind, hrecv, fun U h1 h2 => ⟨rfl, PM_pre hKW hP hD hS U h1 h2⟩⟩ rfl hn hsize hstack (by show 2 * 0 + _ ≤ _; omega) hdg hf) hS (fun q _ h => AMm hS h) (fun q h => AMm hS h) (fun q _ h => AMm hS h)
    (fun E ce q9 u t H1 locs1 e1 _ _ hb _ _ hS1 h1 h2 h3 => kx E ce q9 u H1 locs1 hb.1 (by have := hb.2; unfold BM at this; rw [e1] at this; exact this) (NM_D hD) hS1 h1 h2 h3)
    (fun u t H1 locs1 e1 _ hp hb _ _ hS1 => kk u H1 locs1 hp (by rw [← e1]; exact hb) (NM_D hD) hS1)
theorem yC_i {post : Int32 → Mt → Prop} (S : CallFix p m c cc nL s args (c0 :: wA) own) (hM : vx_Met l y (c2 :: wA) rm (va_Pc (.ref b :: As) (PM D cI cB cR ad w H.size)) (va_Qi post (BM D cI cB cR ad) (AM ad H.size)) (XM D cI cB cR ad cond H.size) mc ms (AM ad H.size)) (cw : CallW R s args own C index y bytes maxL ret (c2 :: wA) rm mc ms n) (hrecv : ∃ cellB : Cell, H[b]? = some cellB ∧ cellB.vm.isStatics = false ∧ s.vm.findClass C = some cellB.cls) (hKW : KM D cI cB cR ad s) (hP : va_P D clA (NM cI cB cR ad w) H) (hD : va_D (AM ad s.heap.size) (NM cI cB cR ad w)) (hS : va_S (AM ad s.heap.size) s.heap H locs) (hn : As.length = n) (hsize : ls.size = nL) (hstack : st0 = As.reverse ++ .ref b :: rest) (hW : (rest.map fun v => v.category).sum ≤ 8) (hdg : decode cc pc = .ok (.invokevirtual index, 3)) (hf : cells + mc ≤ R.cells ∧ slots + ms ≤ R.slots)
    (kx : ∀ (E : String) (ce : Cell) (q9 : Addr) (u : Mt) (H1 : Heap) (locs1 : List Loc), cond E u → va_P D clA (NM cI cB cR ad u) H1 → va_D (AM ad s.heap.size) (NM cI cB cR ad u) → va_S (AM ad s.heap.size) s.heap H1 locs1 → H1[q9]? = some ce → ce.vm = .none → s.vm.findClass E = some ce.cls → vx_W p l e R s m args below meth c H1 locs1 (cells + mc) (slots + ms) Q (F0 m pc ls rest) q9)
    (kk : ∀ (r : Int32) (u : Mt) (H1 : Heap) (locs1 : List Loc), post r u → va_P D clA (NM cI cB cR ad u) H1 → va_D (AM ad s.heap.size) (NM cI cB cR ad u) → va_S (AM ad s.heap.size) s.heap H1 locs1 → W p l e R s m args below meth c H1 locs1 (cells + mc) (slots + ms) Q (F0 m (pc + 3) ls (.int r :: rest))) : W p l e R s m args below meth c H locs cells slots Q (F0 m pc ls st0) :=
  vx_calli (vx_runV (g := F0 m pc ls st0) S hM cw ⟨PM_blind, hrecv, fun U h1 h2 => ⟨rfl, PM_pre hKW hP hD hS U h1 h2⟩⟩ rfl hn hsize hstack (by show 2 * 0 + _ ≤ _; omega) hdg hf) hS (fun q _ h => AMm hS h) (fun q h => AMm hS h) (fun q _ h => AMm hS h)
    (fun E ce q9 u t H1 locs1 e1 _ _ hb _ _ hS1 h1 h2 h3 => kx E ce q9 u H1 locs1 hb.1 (by have := hb.2; unfold BM at this; rw [e1] at this; exact this) (NM_D hD) hS1 h1 h2 h3)
    (fun r u t H1 locs1 e1 _ hp hb _ _ hS1 => kk r u H1 locs1 hp (by rw [← e1]; exact hb) (NM_D hD) hS1)
theorem yC_l {post : Int64 → Mt → Prop} (S : CallFix p m c cc nL s args (c0 :: wA) own) (hM : vx_Met l y (c2 :: wA) rm (va_Pc (.ref b :: As) (PM D cI cB cR ad w H.size)) (va_Ql post (BM D cI cB cR ad) (AM ad H.size)) (XM D cI cB cR ad cond H.size) mc ms (AM ad H.size)) (cw : CallW R s args own C index y bytes maxL ret (c2 :: wA) rm mc ms n) (hrecv : ∃ cellB : Cell, H[b]? = some cellB ∧ cellB.vm.isStatics = false ∧ s.vm.findClass C = some cellB.cls) (hKW : KM D cI cB cR ad s) (hP : va_P D clA (NM cI cB cR ad w) H) (hD : va_D (AM ad s.heap.size) (NM cI cB cR ad w)) (hS : va_S (AM ad s.heap.size) s.heap H locs) (hn : As.length = n) (hsize : ls.size = nL) (hstack : st0 = As.reverse ++ .ref b :: rest) (hW : (rest.map fun v => v.category).sum ≤ 8) (hdg : decode cc pc = .ok (.invokevirtual index, 3)) (hf : cells + mc ≤ R.cells ∧ slots + ms ≤ R.slots)
    (kx : ∀ (E : String) (ce : Cell) (q9 : Addr) (u : Mt) (H1 : Heap) (locs1 : List Loc), cond E u → va_P D clA (NM cI cB cR ad u) H1 → va_D (AM ad s.heap.size) (NM cI cB cR ad u) → va_S (AM ad s.heap.size) s.heap H1 locs1 → H1[q9]? = some ce → ce.vm = .none → s.vm.findClass E = some ce.cls → vx_W p l e R s m args below meth c H1 locs1 (cells + mc) (slots + ms) Q (F0 m pc ls rest) q9)
    (kk : ∀ (r : Int64) (u : Mt) (H1 : Heap) (locs1 : List Loc), post r u → va_P D clA (NM cI cB cR ad u) H1 → va_D (AM ad s.heap.size) (NM cI cB cR ad u) → va_S (AM ad s.heap.size) s.heap H1 locs1 → W p l e R s m args below meth c H1 locs1 (cells + mc) (slots + ms) Q (F0 m (pc + 3) ls (.long r :: rest))) : W p l e R s m args below meth c H locs cells slots Q (F0 m pc ls st0) :=
  vx_calll (vx_runV (g := F0 m pc ls st0) S hM cw ⟨PM_blind, hrecv, fun U h1 h2 => ⟨rfl, PM_pre hKW hP hD hS U h1 h2⟩⟩ rfl hn hsize hstack (by show 2 * 0 + _ ≤ _; omega) hdg hf) hS (fun q _ h => AMm hS h) (fun q h => AMm hS h) (fun q _ h => AMm hS h)
    (fun E ce q9 u t H1 locs1 e1 _ _ hb _ _ hS1 h1 h2 h3 => kx E ce q9 u H1 locs1 hb.1 (by have := hb.2; unfold BM at this; rw [e1] at this; exact this) (NM_D hD) hS1 h1 h2 h3)
    (fun r u t H1 locs1 e1 _ hp hb _ _ hS1 => kk r u H1 locs1 hp (by rw [← e1]; exact hb) (NM_D hD) hS1)
end YC
theorem cs_IA {U : State} (h : KB U) {a : Array Value} : (Cond.castable E_IA E_IA).before a U = true := va_Nw.use rfl (h _ (List.mem_of_getElem? (i := 3) rfl))
theorem cs_IS {U : State} (h : KB U) {a : Array Value} : (Cond.castable E_IS E_IS).before a U = true := va_Nw.use rfl (h _ (List.mem_of_getElem? (i := 4) rfl))
theorem cs_AR {U : State} (h : KB U) {a : Array Value} : (Cond.castable E_AR E_AR).before a U = true := va_Nw.use rfl (h _ (List.mem_of_getElem? (i := 5) rfl))
theorem cs_UO {U : State} (h : KB U) {a : Array Value} : (Cond.castable E_UO E_UO).before a U = true := va_Nw.use rfl (h _ (List.mem_of_getElem? (i := 6) rfl))
theorem cs_NS {U : State} (h : KB U) {a : Array Value} : (Cond.castable E_NS E_NS).before a U = true := va_Nw.use rfl (h _ (List.mem_of_getElem? (i := 7) rfl))
set_option maxHeartbeats 4000000 in
set_option maxRecDepth 100000 in
/-- set -/
theorem c_Mo_set (l : Launch) {D : va_G} {cI cB cR : ClassId} {ad : Nat → Nat} (w : Mt) (sz : Nat) (hl9 : l.stackTraces = false) (x1 : Int32) {V : Nat} (hV64 : V < 2 ^ 64) (A : Ab) (hMI : MI w A) : vx_Met l y_Mo_set (q_Mo_set :: wA) { frames := 13, cells := 1, slots := 6, locals := 300 } (va_Pc [.ref (ad 0), .int (x1), .long (lN (V))] (PMN D cI cB cR ad w sz)) (va_Qi (fun (r : Int32) (w1 : Mt) => pw9 (sp_set x1 (lN V) A) r w1) (BM D cI cB cR ad) (AM ad sz)) FX 1 6 (AM ad sz) := by
  refine vx_ofWH (cc := b_Mo_set) (maxL := 5) (ret := (some (.int))) (hh := [(5, 11, 12, 53)]) (by decide) rfl ?_
  intro p e s m args below meth c s₁ B hml hv
  obtain ⟨rfl, ⟨hsz, hP, hD0, hKW⟩, hNc⟩ := hv
  have hx := B.exec
  have hb := B.bytes
  have hr := B.returns
  have hts := atoms_spec (ws := q_Mo_set :: wA) B.pre
  have hown : s.vm.findClass R_Mo = some m.cls := findClass_of_methodNamed B.named
  have hlocks := B.notSynchronized
  subst hsz
  have hD := NM_AM (sz := s.heap.size) hD0
  have hS : va_S (AM ad s.heap.size) s.heap s.heap [] := va_S.rf
  have hl := lv_entry ([.ref (ad 0), .int (x1), .long (lN (V))]) (n := 5) (Nat.le_of_ble_eq_true rfl)
  rw [lg_entry_eq]
  generalize (lg_sl ([.ref (ad 0), .int (x1), .long (lN (V))]) ++ List.replicate (5 - (lg_sl ([.ref (ad 0), .int (x1), .long (lN (V))])).length) Slot.unset).toArray = ls at hl ⊢
  have hl : lv_has ls 5 [(0, .ref (ad 0)), (1, .int (x1)), (2, .long (lN (V)))] := hl
  have htb := vx_table (x := y_Mo_set) B (hts _ List.mem_cons_self)
  refine lv_aload_n hx hb d_Mo_set_0 rfl (lv_at hl 0 rfl) ?_
  refine lv_iconst (v := nI (0)) hx hb d_Mo_set_1 (by decide) ?_
  refine mw_pX hx hb hts hown hKW.1 hP hD hS lf_Mo_183 d_Mo_set_2 (fun H locs hP hD hS => ?_)
  have hM0 : MI (qX w 0) A := MI_X hMI
  refine lv_aload_n hx hb d_Mo_set_5 rfl (lv_at hl 0 rfl) ?_
  refine lv_iload_n hx hb d_Mo_set_6 rfl (lv_at hl 1 rfl) ?_
  refine lv_lload_n hx hb d_Mo_set_7 rfl (lv_at hl 2 rfl) ?_
  refine yC_i (As := [.int (x1), .long (lN (V))]) (rest := []) (n := 2) ⟨hx, hb, hml, hown, hts⟩ (c_Mo_set0 l (qX w 0) _ hl9 x1 hV64 A hM0) (cwV0 2 hts lm_Mo_186 im_Mo_set0 se_Mo_set0 in_Mo kq_Mo_set0 rfl rfl rfl (by decide +kernel) ⟨Nat.le_of_ble_eq_true rfl, Nat.le_of_ble_eq_true rfl⟩) (recMo hKW.1 hP) hKW hP hD hS rfl hl.1 rfl (Nat.le_of_ble_eq_true rfl) d_Mo_set_8 ⟨Nat.le_of_ble_eq_true rfl, Nat.le_of_ble_eq_true rfl⟩ (fun E ce q9 u H locs hp hP hD hS hcell hcv hcl => ?_) (fun r u H locs hp hP hD hS => ?_)
  · obtain ⟨A9, hMI9, hor⟩ := hp
    rcases hor with ⟨hE, hR⟩ | ⟨hE, hR⟩
    · subst hE
      refine vx_catch (own := R_Mo) (name := E_IA) hown [] ⟨5, 11, 12, 53⟩ [] htb (fun z hz => absurd hz List.not_mem_nil) (by decide) (by decide) (hA_ hts lc_Mo_53) (cs_IA hKW.2.1.1) hcell hcv hcl ?_
      refine lv_astore (lv' := [(4, .ref (q9)), (0, .ref (ad 0)), (1, .int (x1)), (2, .long (lN (V)))]) hx hb d_Mo_set_12 hl (by decide) rfl (fun ls hl => ?_)
      refine lv_aload_n hx hb d_Mo_set_14 rfl (lv_at hl 1 rfl) ?_
      refine lv_iconst (v := nI (1)) hx hb d_Mo_set_15 (by decide) ?_
      refine mw_pX hx hb hts hown hKW.1 hP hD hS lf_Mo_183 d_Mo_set_16 (fun H locs hP hD hS => ?_)
      refine lv_iconst (v := nI (0)) hx hb d_Mo_set_19 (by decide) ?_
      exact vx_ret (W.widen (k := 1) (n := 6) (Nat.le_of_ble_eq_true rfl) (Nat.le_of_ble_eq_true rfl) (W.iret (v := nI (0)) hx hb hr (fun t ht hW => ⟨⟨_, qX (u) (1), rfl, ⟨by rw [hR]; exact MI_X hMI9, by rw [hR]; rfl, fun h => absurd (show (sp_set x1 (lN V) A).1 = 0 from h) (by rw [hR]; show ¬ (1 : Nat) = 0; decide)⟩, BM_of ht hP⟩, hS.F ht⟩) hS.2.2 d_Mo_set_20))
    · subst hE
      exfalso
      unfold sp_set at hR
      split at hR <;> simp at hR
  · obtain ⟨A9, hMI9, hX9, hR⟩ := hp
    exact vx_ret (W.widen (k := 1) (n := 6) (Nat.le_of_ble_eq_true rfl) (Nat.le_of_ble_eq_true rfl) (W.iret (v := r) hx hb hr (fun t ht hW => ⟨⟨_, u, rfl, ⟨by rw [hR]; exact hMI9, by rw [hR]; exact hX9, fun _ => by rw [hR]⟩, BM_of ht hP⟩, hS.F ht⟩) hS.2.2 d_Mo_set_11))
set_option maxHeartbeats 4000000 in
set_option maxRecDepth 100000 in
/-- copy -/
theorem c_Mo_copy (l : Launch) {D : va_G} {cI cB cR : ClassId} {ad : Nat → Nat} (w : Mt) (sz : Nat) (hl9 : l.stackTraces = false) (x1 x2 : Int32) (A : Ab) (hMI : MI w A) : vx_Met l y_Mo_copy (q_Mo_copy :: wA) { frames := 13, cells := 2, slots := 12, locals := 300 } (va_Pc [.ref (ad 0), .int (x1), .int (x2)] (PMN D cI cB cR ad w sz)) (va_Qi (fun (r : Int32) (w1 : Mt) => pw9 (sp_copy x1 x2 A) r w1) (BM D cI cB cR ad) (AM ad sz)) FX 2 12 (AM ad sz) := by
  refine vx_ofWH (cc := b_Mo_copy) (maxL := 4) (ret := (some (.int))) (hh := [(5, 11, 12, 53)]) (by decide) rfl ?_
  intro p e s m args below meth c s₁ B hml hv
  obtain ⟨rfl, ⟨hsz, hP, hD0, hKW⟩, hNc⟩ := hv
  have hx := B.exec
  have hb := B.bytes
  have hr := B.returns
  have hts := atoms_spec (ws := q_Mo_copy :: wA) B.pre
  have hown : s.vm.findClass R_Mo = some m.cls := findClass_of_methodNamed B.named
  have hlocks := B.notSynchronized
  subst hsz
  have hD := NM_AM (sz := s.heap.size) hD0
  have hS : va_S (AM ad s.heap.size) s.heap s.heap [] := va_S.rf
  have hl := lv_entry ([.ref (ad 0), .int (x1), .int (x2)]) (n := 4) (Nat.le_of_ble_eq_true rfl)
  rw [lg_entry_eq]
  generalize (lg_sl ([.ref (ad 0), .int (x1), .int (x2)]) ++ List.replicate (4 - (lg_sl ([.ref (ad 0), .int (x1), .int (x2)])).length) Slot.unset).toArray = ls at hl ⊢
  have hl : lv_has ls 4 [(0, .ref (ad 0)), (1, .int (x1)), (2, .int (x2))] := hl
  have htb := vx_table (x := y_Mo_copy) B (hts _ List.mem_cons_self)
  refine lv_aload_n hx hb d_Mo_copy_0 rfl (lv_at hl 0 rfl) ?_
  refine lv_iconst (v := nI (0)) hx hb d_Mo_copy_1 (by decide) ?_
  refine mw_pX hx hb hts hown hKW.1 hP hD hS lf_Mo_183 d_Mo_copy_2 (fun H locs hP hD hS => ?_)
  have hM0 : MI (qX w 0) A := MI_X hMI
  refine lv_aload_n hx hb d_Mo_copy_5 rfl (lv_at hl 0 rfl) ?_
  refine lv_iload_n hx hb d_Mo_copy_6 rfl (lv_at hl 1 rfl) ?_
  refine lv_iload_n hx hb d_Mo_copy_7 rfl (lv_at hl 2 rfl) ?_
  refine yC_i (As := [.int (x1), .int (x2)]) (rest := []) (n := 2) ⟨hx, hb, hml, hown, hts⟩ (c_Mo_copy0 l (qX w 0) _ hl9 x1 x2 A hM0) (cwV0 2 hts lm_Mo_190 im_Mo_copy0 se_Mo_copy0 in_Mo kq_Mo_copy0 rfl rfl rfl (by decide +kernel) ⟨Nat.le_of_ble_eq_true rfl, Nat.le_of_ble_eq_true rfl⟩) (recMo hKW.1 hP) hKW hP hD hS rfl hl.1 rfl (Nat.le_of_ble_eq_true rfl) d_Mo_copy_8 ⟨Nat.le_of_ble_eq_true rfl, Nat.le_of_ble_eq_true rfl⟩ (fun E ce q9 u H locs hp hP hD hS hcell hcv hcl => ?_) (fun r u H locs hp hP hD hS => ?_)
  · obtain ⟨A9, hMI9, hor⟩ := hp
    rcases hor with ⟨hE, hR⟩ | ⟨hE, hR⟩
    · subst hE
      refine vx_catch (own := R_Mo) (name := E_IA) hown [] ⟨5, 11, 12, 53⟩ [] htb (fun z hz => absurd hz List.not_mem_nil) (by decide) (by decide) (hA_ hts lc_Mo_53) (cs_IA hKW.2.1.1) hcell hcv hcl ?_
      refine lv_astore_n (lv' := [(3, .ref (q9)), (0, .ref (ad 0)), (1, .int (x1)), (2, .int (x2))]) hx hb d_Mo_copy_12 rfl hl (by decide) rfl (fun ls hl => ?_)
      refine lv_aload_n hx hb d_Mo_copy_13 rfl (lv_at hl 1 rfl) ?_
      refine lv_iconst (v := nI (1)) hx hb d_Mo_copy_14 (by decide) ?_
      refine mw_pX hx hb hts hown hKW.1 hP hD hS lf_Mo_183 d_Mo_copy_15 (fun H locs hP hD hS => ?_)
      refine lv_iconst (v := nI (0)) hx hb d_Mo_copy_18 (by decide) ?_
      exact vx_ret (W.widen (k := 2) (n := 12) (Nat.le_of_ble_eq_true rfl) (Nat.le_of_ble_eq_true rfl) (W.iret (v := nI (0)) hx hb hr (fun t ht hW => ⟨⟨_, qX (u) (1), rfl, ⟨by rw [hR]; exact MI_X hMI9, by rw [hR]; rfl, fun h => absurd (show (sp_copy x1 x2 A).1 = 0 from h) (by rw [hR]; show ¬ (1 : Nat) = 0; decide)⟩, BM_of ht hP⟩, hS.F ht⟩) hS.2.2 d_Mo_copy_19))
    · subst hE
      exfalso
      unfold sp_copy at hR
      split at hR <;> simp at hR
  · obtain ⟨A9, hMI9, hX9, hR⟩ := hp
    exact vx_ret (W.widen (k := 2) (n := 12) (Nat.le_of_ble_eq_true rfl) (Nat.le_of_ble_eq_true rfl) (W.iret (v := r) hx hb hr (fun t ht hW => ⟨⟨_, u, rfl, ⟨by rw [hR]; exact hMI9, by rw [hR]; exact hX9, fun _ => by rw [hR]⟩, BM_of ht hP⟩, hS.F ht⟩) hS.2.2 d_Mo_copy_11))
set_option maxHeartbeats 4000000 in
set_option maxRecDepth 100000 in
/-- shift -/
theorem c_Mo_shift (l : Launch) {D : va_G} {cI cB cR : ClassId} {ad : Nat → Nat} (w : Mt) (sz : Nat) (hl9 : l.stackTraces = false) (x1 x2 n : Int32) (A : Ab) (hMI : MI w A) : vx_Met l y_Mo_shift (q_Mo_shift :: wA) { frames := 15, cells := 4, slots := 24, locals := 340 } (va_Pc [.ref (ad 0), .int (x1), .int (x2), .int (n)] (PMN D cI cB cR ad w sz)) (va_Qi (fun (r : Int32) (w1 : Mt) => pw9 (sp_shift x1 x2 n A) r w1) (BM D cI cB cR ad) (AM ad sz)) FX 4 24 (AM ad sz) := by
  refine vx_ofWH (cc := b_Mo_shift) (maxL := 5) (ret := (some (.int))) (hh := [(5, 12, 13, 53), (5, 12, 23, 66)]) (by decide) rfl ?_
  intro p e s m args below meth c s₁ B hml hv
  obtain ⟨rfl, ⟨hsz, hP, hD0, hKW⟩, hNc⟩ := hv
  have hx := B.exec
  have hb := B.bytes
  have hr := B.returns
  have hts := atoms_spec (ws := q_Mo_shift :: wA) B.pre
  have hown : s.vm.findClass R_Mo = some m.cls := findClass_of_methodNamed B.named
  have hlocks := B.notSynchronized
  subst hsz
  have hD := NM_AM (sz := s.heap.size) hD0
  have hS : va_S (AM ad s.heap.size) s.heap s.heap [] := va_S.rf
  have hl := lv_entry ([.ref (ad 0), .int (x1), .int (x2), .int (n)]) (n := 5) (Nat.le_of_ble_eq_true rfl)
  rw [lg_entry_eq]
  generalize (lg_sl ([.ref (ad 0), .int (x1), .int (x2), .int (n)]) ++ List.replicate (5 - (lg_sl ([.ref (ad 0), .int (x1), .int (x2), .int (n)])).length) Slot.unset).toArray = ls at hl ⊢
  have hl : lv_has ls 5 [(0, .ref (ad 0)), (1, .int (x1)), (2, .int (x2)), (3, .int (n))] := hl
  have htb := vx_table (x := y_Mo_shift) B (hts _ List.mem_cons_self)
  refine lv_aload_n hx hb d_Mo_shift_0 rfl (lv_at hl 0 rfl) ?_
  refine lv_iconst (v := nI (0)) hx hb d_Mo_shift_1 (by decide) ?_
  refine mw_pX hx hb hts hown hKW.1 hP hD hS lf_Mo_183 d_Mo_shift_2 (fun H locs hP hD hS => ?_)
  have hM0 : MI (qX w 0) A := MI_X hMI
  refine lv_aload_n hx hb d_Mo_shift_5 rfl (lv_at hl 0 rfl) ?_
  refine lv_iload_n hx hb d_Mo_shift_6 rfl (lv_at hl 1 rfl) ?_
  refine lv_iload_n hx hb d_Mo_shift_7 rfl (lv_at hl 2 rfl) ?_
  refine lv_iload_n hx hb d_Mo_shift_8 rfl (lv_at hl 3 rfl) ?_
  refine yC_i (As := [.int (x1), .int (x2), .int (n)]) (rest := []) (n := 3) ⟨hx, hb, hml, hown, hts⟩ (c_Mo_shift0 l (qX w 0) _ hl9 x1 x2 n A hM0) (cwV0 3 hts lm_Mo_193 im_Mo_shift0 se_Mo_shift0 in_Mo kq_Mo_shift0 rfl rfl rfl (by decide +kernel) ⟨Nat.le_of_ble_eq_true rfl, Nat.le_of_ble_eq_true rfl⟩) (recMo hKW.1 hP) hKW hP hD hS rfl hl.1 rfl (Nat.le_of_ble_eq_true rfl) d_Mo_shift_9 ⟨Nat.le_of_ble_eq_true rfl, Nat.le_of_ble_eq_true rfl⟩ (fun E ce q9 u H locs hp hP hD hS hcell hcv hcl => ?_) (fun r u H locs hp hP hD hS => ?_)
  · obtain ⟨A9, hMI9, hor⟩ := hp
    rcases hor with ⟨hE, hR⟩ | ⟨hE, hR⟩
    · subst hE
      refine vx_catch (own := R_Mo) (name := E_IA) hown [] ⟨5, 12, 13, 53⟩ [⟨5, 12, 23, 66⟩] htb (fun z hz => absurd hz List.not_mem_nil) (by decide) (by decide) (hA_ hts lc_Mo_53) (cs_IA hKW.2.1.1) hcell hcv hcl ?_
      refine lv_astore (lv' := [(4, .ref (q9)), (0, .ref (ad 0)), (1, .int (x1)), (2, .int (x2)), (3, .int (n))]) hx hb d_Mo_shift_13 hl (by decide) rfl (fun ls hl => ?_)
      refine lv_aload_n hx hb d_Mo_shift_15 rfl (lv_at hl 1 rfl) ?_
      refine lv_iconst (v := nI (1)) hx hb d_Mo_shift_16 (by decide) ?_
      refine mw_pX hx hb hts hown hKW.1 hP hD hS lf_Mo_183 d_Mo_shift_17 (fun H locs hP hD hS => ?_)
      refine lv_goto (tgt := 30) hx hb d_Mo_shift_20 (by decide) ?_
      refine lv_iconst (v := nI (0)) hx hb d_Mo_shift_30 (by decide) ?_
      exact vx_ret (W.widen (k := 4) (n := 24) (Nat.le_of_ble_eq_true rfl) (Nat.le_of_ble_eq_true rfl) (W.iret (v := nI (0)) hx hb hr (fun t ht hW => ⟨⟨_, qX (u) (1), rfl, ⟨by rw [hR]; exact MI_X hMI9, by rw [hR]; rfl, fun h => absurd (show (sp_shift x1 x2 n A).1 = 0 from h) (by rw [hR]; show ¬ (1 : Nat) = 0; decide)⟩, BM_of ht hP⟩, hS.F ht⟩) hS.2.2 d_Mo_shift_31))
    · subst hE
      refine vx_catch (own := R_Mo) (name := E_IS) hown [⟨5, 12, 13, 53⟩] ⟨5, 12, 23, 66⟩ [] htb (fun z hz => by rw [List.mem_singleton.mp hz]; exact Or.inr ⟨by decide, E_IA, hA_ hts lc_Mo_53, hNc.1⟩) (by decide) (by decide) (hA_ hts lc_Mo_66) (cs_IS hKW.2.1.1) hcell hcv hcl ?_
      refine lv_astore (lv' := [(4, .ref (q9)), (0, .ref (ad 0)), (1, .int (x1)), (2, .int (x2)), (3, .int (n))]) hx hb d_Mo_shift_23 hl (by decide) rfl (fun ls hl => ?_)
      refine lv_aload_n hx hb d_Mo_shift_25 rfl (lv_at hl 1 rfl) ?_
      refine lv_iconst (v := nI (2)) hx hb d_Mo_shift_26 (by decide) ?_
      refine mw_pX hx hb hts hown hKW.1 hP hD hS lf_Mo_183 d_Mo_shift_27 (fun H locs hP hD hS => ?_)
      refine lv_iconst (v := nI (0)) hx hb d_Mo_shift_30 (by decide) ?_
      exact vx_ret (W.widen (k := 4) (n := 24) (Nat.le_of_ble_eq_true rfl) (Nat.le_of_ble_eq_true rfl) (W.iret (v := nI (0)) hx hb hr (fun t ht hW => ⟨⟨_, qX (u) (2), rfl, ⟨by rw [hR]; exact MI_X hMI9, by rw [hR]; rfl, fun h => absurd (show (sp_shift x1 x2 n A).1 = 0 from h) (by rw [hR]; show ¬ (2 : Nat) = 0; decide)⟩, BM_of ht hP⟩, hS.F ht⟩) hS.2.2 d_Mo_shift_31))
  · obtain ⟨A9, hMI9, hX9, hR⟩ := hp
    exact vx_ret (W.widen (k := 4) (n := 24) (Nat.le_of_ble_eq_true rfl) (Nat.le_of_ble_eq_true rfl) (W.iret (v := r) hx hb hr (fun t ht hW => ⟨⟨_, u, rfl, ⟨by rw [hR]; exact hMI9, by rw [hR]; exact hX9, fun _ => by rw [hR]⟩, BM_of ht hP⟩, hS.F ht⟩) hS.2.2 d_Mo_shift_12))
set_option maxHeartbeats 4000000 in
set_option maxRecDepth 100000 in
/-- add -/
theorem c_Mo_add (l : Launch) {D : va_G} {cI cB cR : ClassId} {ad : Nat → Nat} (w : Mt) (sz : Nat) (hl9 : l.stackTraces = false) (x1 x2 x3 : Int32) (A : Ab) (hMI : MI w A) : vx_Met l y_Mo_add (q_Mo_add :: wA) { frames := 15, cells := 4, slots := 24, locals := 340 } (va_Pc [.ref (ad 0), .int (x1), .int (x2), .int (x3)] (PMN D cI cB cR ad w sz)) (va_Qi (fun (r : Int32) (w1 : Mt) => pw9 (sp_add x1 x2 x3 A) r w1) (BM D cI cB cR ad) (AM ad sz)) FX 4 24 (AM ad sz) := by
  refine vx_ofWH (cc := b_Mo_add) (maxL := 5) (ret := (some (.int))) (hh := [(5, 12, 13, 53), (5, 12, 23, 66)]) (by decide) rfl ?_
  intro p e s m args below meth c s₁ B hml hv
  obtain ⟨rfl, ⟨hsz, hP, hD0, hKW⟩, hNc⟩ := hv
  have hx := B.exec
  have hb := B.bytes
  have hr := B.returns
  have hts := atoms_spec (ws := q_Mo_add :: wA) B.pre
  have hown : s.vm.findClass R_Mo = some m.cls := findClass_of_methodNamed B.named
  have hlocks := B.notSynchronized
  subst hsz
  have hD := NM_AM (sz := s.heap.size) hD0
  have hS : va_S (AM ad s.heap.size) s.heap s.heap [] := va_S.rf
  have hl := lv_entry ([.ref (ad 0), .int (x1), .int (x2), .int (x3)]) (n := 5) (Nat.le_of_ble_eq_true rfl)
  rw [lg_entry_eq]
  generalize (lg_sl ([.ref (ad 0), .int (x1), .int (x2), .int (x3)]) ++ List.replicate (5 - (lg_sl ([.ref (ad 0), .int (x1), .int (x2), .int (x3)])).length) Slot.unset).toArray = ls at hl ⊢
  have hl : lv_has ls 5 [(0, .ref (ad 0)), (1, .int (x1)), (2, .int (x2)), (3, .int (x3))] := hl
  have htb := vx_table (x := y_Mo_add) B (hts _ List.mem_cons_self)
  refine lv_aload_n hx hb d_Mo_add_0 rfl (lv_at hl 0 rfl) ?_
  refine lv_iconst (v := nI (0)) hx hb d_Mo_add_1 (by decide) ?_
  refine mw_pX hx hb hts hown hKW.1 hP hD hS lf_Mo_183 d_Mo_add_2 (fun H locs hP hD hS => ?_)
  have hM0 : MI (qX w 0) A := MI_X hMI
  refine lv_aload_n hx hb d_Mo_add_5 rfl (lv_at hl 0 rfl) ?_
  refine lv_iload_n hx hb d_Mo_add_6 rfl (lv_at hl 1 rfl) ?_
  refine lv_iload_n hx hb d_Mo_add_7 rfl (lv_at hl 2 rfl) ?_
  refine lv_iload_n hx hb d_Mo_add_8 rfl (lv_at hl 3 rfl) ?_
  refine yC_i (As := [.int (x1), .int (x2), .int (x3)]) (rest := []) (n := 3) ⟨hx, hb, hml, hown, hts⟩ (c_Mo_add0 l (qX w 0) _ hl9 x1 x2 x3 A hM0) (cwV0 3 hts lm_Mo_197 im_Mo_add0 se_Mo_add0 in_Mo kq_Mo_add0 rfl rfl rfl (by decide +kernel) ⟨Nat.le_of_ble_eq_true rfl, Nat.le_of_ble_eq_true rfl⟩) (recMo hKW.1 hP) hKW hP hD hS rfl hl.1 rfl (Nat.le_of_ble_eq_true rfl) d_Mo_add_9 ⟨Nat.le_of_ble_eq_true rfl, Nat.le_of_ble_eq_true rfl⟩ (fun E ce q9 u H locs hp hP hD hS hcell hcv hcl => ?_) (fun r u H locs hp hP hD hS => ?_)
  · obtain ⟨A9, hMI9, hor⟩ := hp
    rcases hor with ⟨hE, hR⟩ | ⟨hE, hR⟩
    · subst hE
      refine vx_catch (own := R_Mo) (name := E_IA) hown [] ⟨5, 12, 13, 53⟩ [⟨5, 12, 23, 66⟩] htb (fun z hz => absurd hz List.not_mem_nil) (by decide) (by decide) (hA_ hts lc_Mo_53) (cs_IA hKW.2.1.1) hcell hcv hcl ?_
      refine lv_astore (lv' := [(4, .ref (q9)), (0, .ref (ad 0)), (1, .int (x1)), (2, .int (x2)), (3, .int (x3))]) hx hb d_Mo_add_13 hl (by decide) rfl (fun ls hl => ?_)
      refine lv_aload_n hx hb d_Mo_add_15 rfl (lv_at hl 1 rfl) ?_
      refine lv_iconst (v := nI (1)) hx hb d_Mo_add_16 (by decide) ?_
      refine mw_pX hx hb hts hown hKW.1 hP hD hS lf_Mo_183 d_Mo_add_17 (fun H locs hP hD hS => ?_)
      refine lv_goto (tgt := 30) hx hb d_Mo_add_20 (by decide) ?_
      refine lv_iconst (v := nI (0)) hx hb d_Mo_add_30 (by decide) ?_
      exact vx_ret (W.widen (k := 4) (n := 24) (Nat.le_of_ble_eq_true rfl) (Nat.le_of_ble_eq_true rfl) (W.iret (v := nI (0)) hx hb hr (fun t ht hW => ⟨⟨_, qX (u) (1), rfl, ⟨by rw [hR]; exact MI_X hMI9, by rw [hR]; rfl, fun h => absurd (show (sp_add x1 x2 x3 A).1 = 0 from h) (by rw [hR]; show ¬ (1 : Nat) = 0; decide)⟩, BM_of ht hP⟩, hS.F ht⟩) hS.2.2 d_Mo_add_31))
    · subst hE
      refine vx_catch (own := R_Mo) (name := E_IS) hown [⟨5, 12, 13, 53⟩] ⟨5, 12, 23, 66⟩ [] htb (fun z hz => by rw [List.mem_singleton.mp hz]; exact Or.inr ⟨by decide, E_IA, hA_ hts lc_Mo_53, hNc.1⟩) (by decide) (by decide) (hA_ hts lc_Mo_66) (cs_IS hKW.2.1.1) hcell hcv hcl ?_
      refine lv_astore (lv' := [(4, .ref (q9)), (0, .ref (ad 0)), (1, .int (x1)), (2, .int (x2)), (3, .int (x3))]) hx hb d_Mo_add_23 hl (by decide) rfl (fun ls hl => ?_)
      refine lv_aload_n hx hb d_Mo_add_25 rfl (lv_at hl 1 rfl) ?_
      refine lv_iconst (v := nI (2)) hx hb d_Mo_add_26 (by decide) ?_
      refine mw_pX hx hb hts hown hKW.1 hP hD hS lf_Mo_183 d_Mo_add_27 (fun H locs hP hD hS => ?_)
      refine lv_iconst (v := nI (0)) hx hb d_Mo_add_30 (by decide) ?_
      exact vx_ret (W.widen (k := 4) (n := 24) (Nat.le_of_ble_eq_true rfl) (Nat.le_of_ble_eq_true rfl) (W.iret (v := nI (0)) hx hb hr (fun t ht hW => ⟨⟨_, qX (u) (2), rfl, ⟨by rw [hR]; exact MI_X hMI9, by rw [hR]; rfl, fun h => absurd (show (sp_add x1 x2 x3 A).1 = 0 from h) (by rw [hR]; show ¬ (2 : Nat) = 0; decide)⟩, BM_of ht hP⟩, hS.F ht⟩) hS.2.2 d_Mo_add_31))
  · obtain ⟨A9, hMI9, hX9, hR⟩ := hp
    exact vx_ret (W.widen (k := 4) (n := 24) (Nat.le_of_ble_eq_true rfl) (Nat.le_of_ble_eq_true rfl) (W.iret (v := r) hx hb hr (fun t ht hW => ⟨⟨_, u, rfl, ⟨by rw [hR]; exact hMI9, by rw [hR]; exact hX9, fun _ => by rw [hR]⟩, BM_of ht hP⟩, hS.F ht⟩) hS.2.2 d_Mo_add_12))
set_option maxHeartbeats 4000000 in
set_option maxRecDepth 100000 in
/-- subtract -/
theorem c_Mo_subtract (l : Launch) {D : va_G} {cI cB cR : ClassId} {ad : Nat → Nat} (w : Mt) (sz : Nat) (hl9 : l.stackTraces = false) (x1 x2 x3 : Int32) (A : Ab) (hMI : MI w A) : vx_Met l y_Mo_subtract (q_Mo_subtract :: wA) { frames := 15, cells := 4, slots := 24, locals := 340 } (va_Pc [.ref (ad 0), .int (x1), .int (x2), .int (x3)] (PMN D cI cB cR ad w sz)) (va_Qi (fun (r : Int32) (w1 : Mt) => pw9 (sp_subtract x1 x2 x3 A) r w1) (BM D cI cB cR ad) (AM ad sz)) FX 4 24 (AM ad sz) := by
  refine vx_ofWH (cc := b_Mo_subtract) (maxL := 5) (ret := (some (.int))) (hh := [(5, 12, 13, 53), (5, 12, 23, 109)]) (by decide) rfl ?_
  intro p e s m args below meth c s₁ B hml hv
  obtain ⟨rfl, ⟨hsz, hP, hD0, hKW⟩, hNc⟩ := hv
  have hx := B.exec
  have hb := B.bytes
  have hr := B.returns
  have hts := atoms_spec (ws := q_Mo_subtract :: wA) B.pre
  have hown : s.vm.findClass R_Mo = some m.cls := findClass_of_methodNamed B.named
  have hlocks := B.notSynchronized
  subst hsz
  have hD := NM_AM (sz := s.heap.size) hD0
  have hS : va_S (AM ad s.heap.size) s.heap s.heap [] := va_S.rf
  have hl := lv_entry ([.ref (ad 0), .int (x1), .int (x2), .int (x3)]) (n := 5) (Nat.le_of_ble_eq_true rfl)
  rw [lg_entry_eq]
  generalize (lg_sl ([.ref (ad 0), .int (x1), .int (x2), .int (x3)]) ++ List.replicate (5 - (lg_sl ([.ref (ad 0), .int (x1), .int (x2), .int (x3)])).length) Slot.unset).toArray = ls at hl ⊢
  have hl : lv_has ls 5 [(0, .ref (ad 0)), (1, .int (x1)), (2, .int (x2)), (3, .int (x3))] := hl
  have htb := vx_table (x := y_Mo_subtract) B (hts _ List.mem_cons_self)
  refine lv_aload_n hx hb d_Mo_subtract_0 rfl (lv_at hl 0 rfl) ?_
  refine lv_iconst (v := nI (0)) hx hb d_Mo_subtract_1 (by decide) ?_
  refine mw_pX hx hb hts hown hKW.1 hP hD hS lf_Mo_183 d_Mo_subtract_2 (fun H locs hP hD hS => ?_)
  have hM0 : MI (qX w 0) A := MI_X hMI
  refine lv_aload_n hx hb d_Mo_subtract_5 rfl (lv_at hl 0 rfl) ?_
  refine lv_iload_n hx hb d_Mo_subtract_6 rfl (lv_at hl 1 rfl) ?_
  refine lv_iload_n hx hb d_Mo_subtract_7 rfl (lv_at hl 2 rfl) ?_
  refine lv_iload_n hx hb d_Mo_subtract_8 rfl (lv_at hl 3 rfl) ?_
  refine yC_i (As := [.int (x1), .int (x2), .int (x3)]) (rest := []) (n := 3) ⟨hx, hb, hml, hown, hts⟩ (c_Mo_subtract0 l (qX w 0) _ hl9 x1 x2 x3 A hM0) (cwV0 3 hts lm_Mo_200 im_Mo_subtract0 se_Mo_subtract0 in_Mo kq_Mo_subtract0 rfl rfl rfl (by decide +kernel) ⟨Nat.le_of_ble_eq_true rfl, Nat.le_of_ble_eq_true rfl⟩) (recMo hKW.1 hP) hKW hP hD hS rfl hl.1 rfl (Nat.le_of_ble_eq_true rfl) d_Mo_subtract_9 ⟨Nat.le_of_ble_eq_true rfl, Nat.le_of_ble_eq_true rfl⟩ (fun E ce q9 u H locs hp hP hD hS hcell hcv hcl => ?_) (fun r u H locs hp hP hD hS => ?_)
  · obtain ⟨A9, hMI9, hor⟩ := hp
    rcases hor with ⟨hE, hR⟩ | ⟨hE, hR⟩
    · subst hE
      refine vx_catch (own := R_Mo) (name := E_IA) hown [] ⟨5, 12, 13, 53⟩ [⟨5, 12, 23, 109⟩] htb (fun z hz => absurd hz List.not_mem_nil) (by decide) (by decide) (hA_ hts lc_Mo_53) (cs_IA hKW.2.1.1) hcell hcv hcl ?_
      refine lv_astore (lv' := [(4, .ref (q9)), (0, .ref (ad 0)), (1, .int (x1)), (2, .int (x2)), (3, .int (x3))]) hx hb d_Mo_subtract_13 hl (by decide) rfl (fun ls hl => ?_)
      refine lv_aload_n hx hb d_Mo_subtract_15 rfl (lv_at hl 1 rfl) ?_
      refine lv_iconst (v := nI (1)) hx hb d_Mo_subtract_16 (by decide) ?_
      refine mw_pX hx hb hts hown hKW.1 hP hD hS lf_Mo_183 d_Mo_subtract_17 (fun H locs hP hD hS => ?_)
      refine lv_goto (tgt := 30) hx hb d_Mo_subtract_20 (by decide) ?_
      refine lv_iconst (v := nI (0)) hx hb d_Mo_subtract_30 (by decide) ?_
      exact vx_ret (W.widen (k := 4) (n := 24) (Nat.le_of_ble_eq_true rfl) (Nat.le_of_ble_eq_true rfl) (W.iret (v := nI (0)) hx hb hr (fun t ht hW => ⟨⟨_, qX (u) (1), rfl, ⟨by rw [hR]; exact MI_X hMI9, by rw [hR]; rfl, fun h => absurd (show (sp_subtract x1 x2 x3 A).1 = 0 from h) (by rw [hR]; show ¬ (1 : Nat) = 0; decide)⟩, BM_of ht hP⟩, hS.F ht⟩) hS.2.2 d_Mo_subtract_31))
    · subst hE
      refine vx_catch (own := R_Mo) (name := E_AR) hown [⟨5, 12, 13, 53⟩] ⟨5, 12, 23, 109⟩ [] htb (fun z hz => by rw [List.mem_singleton.mp hz]; exact Or.inr ⟨by decide, E_IA, hA_ hts lc_Mo_53, hNc.2.1⟩) (by decide) (by decide) (hA_ hts lc_Mo_109) (cs_AR hKW.2.1.1) hcell hcv hcl ?_
      refine lv_astore (lv' := [(4, .ref (q9)), (0, .ref (ad 0)), (1, .int (x1)), (2, .int (x2)), (3, .int (x3))]) hx hb d_Mo_subtract_23 hl (by decide) rfl (fun ls hl => ?_)
      refine lv_aload_n hx hb d_Mo_subtract_25 rfl (lv_at hl 1 rfl) ?_
      refine lv_iconst (v := nI (2)) hx hb d_Mo_subtract_26 (by decide) ?_
      refine mw_pX hx hb hts hown hKW.1 hP hD hS lf_Mo_183 d_Mo_subtract_27 (fun H locs hP hD hS => ?_)
      refine lv_iconst (v := nI (0)) hx hb d_Mo_subtract_30 (by decide) ?_
      exact vx_ret (W.widen (k := 4) (n := 24) (Nat.le_of_ble_eq_true rfl) (Nat.le_of_ble_eq_true rfl) (W.iret (v := nI (0)) hx hb hr (fun t ht hW => ⟨⟨_, qX (u) (2), rfl, ⟨by rw [hR]; exact MI_X hMI9, by rw [hR]; rfl, fun h => absurd (show (sp_subtract x1 x2 x3 A).1 = 0 from h) (by rw [hR]; show ¬ (2 : Nat) = 0; decide)⟩, BM_of ht hP⟩, hS.F ht⟩) hS.2.2 d_Mo_subtract_31))
  · obtain ⟨A9, hMI9, hX9, hR⟩ := hp
    exact vx_ret (W.widen (k := 4) (n := 24) (Nat.le_of_ble_eq_true rfl) (Nat.le_of_ble_eq_true rfl) (W.iret (v := r) hx hb hr (fun t ht hW => ⟨⟨_, u, rfl, ⟨by rw [hR]; exact hMI9, by rw [hR]; exact hX9, fun _ => by rw [hR]⟩, BM_of ht hP⟩, hS.F ht⟩) hS.2.2 d_Mo_subtract_12))
set_option maxHeartbeats 4000000 in
set_option maxRecDepth 100000 in
/-- times -/
theorem c_Mo_times (l : Launch) {D : va_G} {cI cB cR : ClassId} {ad : Nat → Nat} (w : Mt) (sz : Nat) (hl9 : l.stackTraces = false) (x1 x2 x3 : Int32) (A : Ab) (hMI : MI w A) : vx_Met l y_Mo_times (q_Mo_times :: wA) { frames := 15, cells := 4, slots := 24, locals := 340 } (va_Pc [.ref (ad 0), .int (x1), .int (x2), .int (x3)] (PMN D cI cB cR ad w sz)) (va_Qi (fun (r : Int32) (w1 : Mt) => pw9 (sp_times x1 x2 x3 A) r w1) (BM D cI cB cR ad) (AM ad sz)) FX 4 24 (AM ad sz) := by
  refine vx_ofWH (cc := b_Mo_times) (maxL := 5) (ret := (some (.int))) (hh := [(5, 12, 13, 53), (5, 12, 23, 66)]) (by decide) rfl ?_
  intro p e s m args below meth c s₁ B hml hv
  obtain ⟨rfl, ⟨hsz, hP, hD0, hKW⟩, hNc⟩ := hv
  have hx := B.exec
  have hb := B.bytes
  have hr := B.returns
  have hts := atoms_spec (ws := q_Mo_times :: wA) B.pre
  have hown : s.vm.findClass R_Mo = some m.cls := findClass_of_methodNamed B.named
  have hlocks := B.notSynchronized
  subst hsz
  have hD := NM_AM (sz := s.heap.size) hD0
  have hS : va_S (AM ad s.heap.size) s.heap s.heap [] := va_S.rf
  have hl := lv_entry ([.ref (ad 0), .int (x1), .int (x2), .int (x3)]) (n := 5) (Nat.le_of_ble_eq_true rfl)
  rw [lg_entry_eq]
  generalize (lg_sl ([.ref (ad 0), .int (x1), .int (x2), .int (x3)]) ++ List.replicate (5 - (lg_sl ([.ref (ad 0), .int (x1), .int (x2), .int (x3)])).length) Slot.unset).toArray = ls at hl ⊢
  have hl : lv_has ls 5 [(0, .ref (ad 0)), (1, .int (x1)), (2, .int (x2)), (3, .int (x3))] := hl
  have htb := vx_table (x := y_Mo_times) B (hts _ List.mem_cons_self)
  refine lv_aload_n hx hb d_Mo_times_0 rfl (lv_at hl 0 rfl) ?_
  refine lv_iconst (v := nI (0)) hx hb d_Mo_times_1 (by decide) ?_
  refine mw_pX hx hb hts hown hKW.1 hP hD hS lf_Mo_183 d_Mo_times_2 (fun H locs hP hD hS => ?_)
  have hM0 : MI (qX w 0) A := MI_X hMI
  refine lv_aload_n hx hb d_Mo_times_5 rfl (lv_at hl 0 rfl) ?_
  refine lv_iload_n hx hb d_Mo_times_6 rfl (lv_at hl 1 rfl) ?_
  refine lv_iload_n hx hb d_Mo_times_7 rfl (lv_at hl 2 rfl) ?_
  refine lv_iload_n hx hb d_Mo_times_8 rfl (lv_at hl 3 rfl) ?_
  refine yC_i (As := [.int (x1), .int (x2), .int (x3)]) (rest := []) (n := 3) ⟨hx, hb, hml, hown, hts⟩ (c_Mo_times0 l (qX w 0) _ hl9 x1 x2 x3 A hM0) (cwV0 3 hts lm_Mo_203 im_Mo_times0 se_Mo_times0 in_Mo kq_Mo_times0 rfl rfl rfl (by decide +kernel) ⟨Nat.le_of_ble_eq_true rfl, Nat.le_of_ble_eq_true rfl⟩) (recMo hKW.1 hP) hKW hP hD hS rfl hl.1 rfl (Nat.le_of_ble_eq_true rfl) d_Mo_times_9 ⟨Nat.le_of_ble_eq_true rfl, Nat.le_of_ble_eq_true rfl⟩ (fun E ce q9 u H locs hp hP hD hS hcell hcv hcl => ?_) (fun r u H locs hp hP hD hS => ?_)
  · obtain ⟨A9, hMI9, hor⟩ := hp
    rcases hor with ⟨hE, hR⟩ | ⟨hE, hR⟩
    · subst hE
      refine vx_catch (own := R_Mo) (name := E_IA) hown [] ⟨5, 12, 13, 53⟩ [⟨5, 12, 23, 66⟩] htb (fun z hz => absurd hz List.not_mem_nil) (by decide) (by decide) (hA_ hts lc_Mo_53) (cs_IA hKW.2.1.1) hcell hcv hcl ?_
      refine lv_astore (lv' := [(4, .ref (q9)), (0, .ref (ad 0)), (1, .int (x1)), (2, .int (x2)), (3, .int (x3))]) hx hb d_Mo_times_13 hl (by decide) rfl (fun ls hl => ?_)
      refine lv_aload_n hx hb d_Mo_times_15 rfl (lv_at hl 1 rfl) ?_
      refine lv_iconst (v := nI (1)) hx hb d_Mo_times_16 (by decide) ?_
      refine mw_pX hx hb hts hown hKW.1 hP hD hS lf_Mo_183 d_Mo_times_17 (fun H locs hP hD hS => ?_)
      refine lv_goto (tgt := 30) hx hb d_Mo_times_20 (by decide) ?_
      refine lv_iconst (v := nI (0)) hx hb d_Mo_times_30 (by decide) ?_
      exact vx_ret (W.widen (k := 4) (n := 24) (Nat.le_of_ble_eq_true rfl) (Nat.le_of_ble_eq_true rfl) (W.iret (v := nI (0)) hx hb hr (fun t ht hW => ⟨⟨_, qX (u) (1), rfl, ⟨by rw [hR]; exact MI_X hMI9, by rw [hR]; rfl, fun h => absurd (show (sp_times x1 x2 x3 A).1 = 0 from h) (by rw [hR]; show ¬ (1 : Nat) = 0; decide)⟩, BM_of ht hP⟩, hS.F ht⟩) hS.2.2 d_Mo_times_31))
    · subst hE
      refine vx_catch (own := R_Mo) (name := E_IS) hown [⟨5, 12, 13, 53⟩] ⟨5, 12, 23, 66⟩ [] htb (fun z hz => by rw [List.mem_singleton.mp hz]; exact Or.inr ⟨by decide, E_IA, hA_ hts lc_Mo_53, hNc.1⟩) (by decide) (by decide) (hA_ hts lc_Mo_66) (cs_IS hKW.2.1.1) hcell hcv hcl ?_
      refine lv_astore (lv' := [(4, .ref (q9)), (0, .ref (ad 0)), (1, .int (x1)), (2, .int (x2)), (3, .int (x3))]) hx hb d_Mo_times_23 hl (by decide) rfl (fun ls hl => ?_)
      refine lv_aload_n hx hb d_Mo_times_25 rfl (lv_at hl 1 rfl) ?_
      refine lv_iconst (v := nI (2)) hx hb d_Mo_times_26 (by decide) ?_
      refine mw_pX hx hb hts hown hKW.1 hP hD hS lf_Mo_183 d_Mo_times_27 (fun H locs hP hD hS => ?_)
      refine lv_iconst (v := nI (0)) hx hb d_Mo_times_30 (by decide) ?_
      exact vx_ret (W.widen (k := 4) (n := 24) (Nat.le_of_ble_eq_true rfl) (Nat.le_of_ble_eq_true rfl) (W.iret (v := nI (0)) hx hb hr (fun t ht hW => ⟨⟨_, qX (u) (2), rfl, ⟨by rw [hR]; exact MI_X hMI9, by rw [hR]; rfl, fun h => absurd (show (sp_times x1 x2 x3 A).1 = 0 from h) (by rw [hR]; show ¬ (2 : Nat) = 0; decide)⟩, BM_of ht hP⟩, hS.F ht⟩) hS.2.2 d_Mo_times_31))
  · obtain ⟨A9, hMI9, hX9, hR⟩ := hp
    exact vx_ret (W.widen (k := 4) (n := 24) (Nat.le_of_ble_eq_true rfl) (Nat.le_of_ble_eq_true rfl) (W.iret (v := r) hx hb hr (fun t ht hW => ⟨⟨_, u, rfl, ⟨by rw [hR]; exact hMI9, by rw [hR]; exact hX9, fun _ => by rw [hR]⟩, BM_of ht hP⟩, hS.F ht⟩) hS.2.2 d_Mo_times_12))
set_option maxHeartbeats 4000000 in
set_option maxRecDepth 100000 in
/-- divide -/
theorem c_Mo_divide (l : Launch) {D : va_G} {cI cB cR : ClassId} {ad : Nat → Nat} (w : Mt) (sz : Nat) (hl9 : l.stackTraces = false) (x1 x2 x3 x4 : Int32) (A : Ab) (hMI : MI w A) : vx_Met l y_Mo_divide_IIII (q_Mo_divide_IIII :: wA) { frames := 15, cells := 5, slots := 30, locals := 340 } (va_Pc [.ref (ad 0), .int (x1), .int (x2), .int (x3), .int (x4)] (PMN D cI cB cR ad w sz)) (va_Qi (fun (r : Int32) (w1 : Mt) => pw9 (sp_divide x1 x2 x3 x4 A) r w1) (BM D cI cB cR ad) (AM ad sz)) FX 5 30 (AM ad sz) := by
  refine vx_ofWH (cc := b_Mo_divide_IIII) (maxL := 6) (ret := (some (.int))) (hh := [(5, 14, 15, 53), (5, 14, 25, 109)]) (by decide) rfl ?_
  intro p e s m args below meth c s₁ B hml hv
  obtain ⟨rfl, ⟨hsz, hP, hD0, hKW⟩, hNc⟩ := hv
  have hx := B.exec
  have hb := B.bytes
  have hr := B.returns
  have hts := atoms_spec (ws := q_Mo_divide_IIII :: wA) B.pre
  have hown : s.vm.findClass R_Mo = some m.cls := findClass_of_methodNamed B.named
  have hlocks := B.notSynchronized
  subst hsz
  have hD := NM_AM (sz := s.heap.size) hD0
  have hS : va_S (AM ad s.heap.size) s.heap s.heap [] := va_S.rf
  have hl := lv_entry ([.ref (ad 0), .int (x1), .int (x2), .int (x3), .int (x4)]) (n := 6) (Nat.le_of_ble_eq_true rfl)
  rw [lg_entry_eq]
  generalize (lg_sl ([.ref (ad 0), .int (x1), .int (x2), .int (x3), .int (x4)]) ++ List.replicate (6 - (lg_sl ([.ref (ad 0), .int (x1), .int (x2), .int (x3), .int (x4)])).length) Slot.unset).toArray = ls at hl ⊢
  have hl : lv_has ls 6 [(0, .ref (ad 0)), (1, .int (x1)), (2, .int (x2)), (3, .int (x3)), (4, .int (x4))] := hl
  have htb := vx_table (x := y_Mo_divide_IIII) B (hts _ List.mem_cons_self)
  refine lv_aload_n hx hb d_Mo_divide_IIII_0 rfl (lv_at hl 0 rfl) ?_
  refine lv_iconst (v := nI (0)) hx hb d_Mo_divide_IIII_1 (by decide) ?_
  refine mw_pX hx hb hts hown hKW.1 hP hD hS lf_Mo_183 d_Mo_divide_IIII_2 (fun H locs hP hD hS => ?_)
  have hM0 : MI (qX w 0) A := MI_X hMI
  refine lv_aload_n hx hb d_Mo_divide_IIII_5 rfl (lv_at hl 0 rfl) ?_
  refine lv_iload_n hx hb d_Mo_divide_IIII_6 rfl (lv_at hl 1 rfl) ?_
  refine lv_iload_n hx hb d_Mo_divide_IIII_7 rfl (lv_at hl 2 rfl) ?_
  refine lv_iload_n hx hb d_Mo_divide_IIII_8 rfl (lv_at hl 3 rfl) ?_
  refine lv_iload hx hb d_Mo_divide_IIII_9 (lv_at hl 4 rfl) ?_
  refine yC_i (As := [.int (x1), .int (x2), .int (x3), .int (x4)]) (rest := []) (n := 4) ⟨hx, hb, hml, hown, hts⟩ (c_Mo_divide0 l (qX w 0) _ hl9 x1 x2 x3 x4 A hM0) (cwV0 4 hts lm_Mo_206 im_Mo_divide0 se_Mo_divide0 in_Mo kq_Mo_divide0 rfl rfl rfl (by decide +kernel) ⟨Nat.le_of_ble_eq_true rfl, Nat.le_of_ble_eq_true rfl⟩) (recMo hKW.1 hP) hKW hP hD hS rfl hl.1 rfl (Nat.le_of_ble_eq_true rfl) d_Mo_divide_IIII_11 ⟨Nat.le_of_ble_eq_true rfl, Nat.le_of_ble_eq_true rfl⟩ (fun E ce q9 u H locs hp hP hD hS hcell hcv hcl => ?_) (fun r u H locs hp hP hD hS => ?_)
  · obtain ⟨A9, hMI9, hor⟩ := hp
    rcases hor with ⟨hE, hR⟩ | ⟨hE, hR⟩
    · subst hE
      refine vx_catch (own := R_Mo) (name := E_IA) hown [] ⟨5, 14, 15, 53⟩ [⟨5, 14, 25, 109⟩] htb (fun z hz => absurd hz List.not_mem_nil) (by decide) (by decide) (hA_ hts lc_Mo_53) (cs_IA hKW.2.1.1) hcell hcv hcl ?_
      refine lv_astore (lv' := [(5, .ref (q9)), (0, .ref (ad 0)), (1, .int (x1)), (2, .int (x2)), (3, .int (x3)), (4, .int (x4))]) hx hb d_Mo_divide_IIII_15 hl (by decide) rfl (fun ls hl => ?_)
      refine lv_aload_n hx hb d_Mo_divide_IIII_17 rfl (lv_at hl 1 rfl) ?_
      refine lv_iconst (v := nI (1)) hx hb d_Mo_divide_IIII_18 (by decide) ?_
      refine mw_pX hx hb hts hown hKW.1 hP hD hS lf_Mo_183 d_Mo_divide_IIII_19 (fun H locs hP hD hS => ?_)
      refine lv_goto (tgt := 32) hx hb d_Mo_divide_IIII_22 (by decide) ?_
      refine lv_iconst (v := nI (0)) hx hb d_Mo_divide_IIII_32 (by decide) ?_
      exact vx_ret (W.widen (k := 5) (n := 30) (Nat.le_of_ble_eq_true rfl) (Nat.le_of_ble_eq_true rfl) (W.iret (v := nI (0)) hx hb hr (fun t ht hW => ⟨⟨_, qX (u) (1), rfl, ⟨by rw [hR]; exact MI_X hMI9, by rw [hR]; rfl, fun h => absurd (show (sp_divide x1 x2 x3 x4 A).1 = 0 from h) (by rw [hR]; show ¬ (1 : Nat) = 0; decide)⟩, BM_of ht hP⟩, hS.F ht⟩) hS.2.2 d_Mo_divide_IIII_33))
    · subst hE
      refine vx_catch (own := R_Mo) (name := E_AR) hown [⟨5, 14, 15, 53⟩] ⟨5, 14, 25, 109⟩ [] htb (fun z hz => by rw [List.mem_singleton.mp hz]; exact Or.inr ⟨by decide, E_IA, hA_ hts lc_Mo_53, hNc.2.1⟩) (by decide) (by decide) (hA_ hts lc_Mo_109) (cs_AR hKW.2.1.1) hcell hcv hcl ?_
      refine lv_astore (lv' := [(5, .ref (q9)), (0, .ref (ad 0)), (1, .int (x1)), (2, .int (x2)), (3, .int (x3)), (4, .int (x4))]) hx hb d_Mo_divide_IIII_25 hl (by decide) rfl (fun ls hl => ?_)
      refine lv_aload_n hx hb d_Mo_divide_IIII_27 rfl (lv_at hl 1 rfl) ?_
      refine lv_iconst (v := nI (2)) hx hb d_Mo_divide_IIII_28 (by decide) ?_
      refine mw_pX hx hb hts hown hKW.1 hP hD hS lf_Mo_183 d_Mo_divide_IIII_29 (fun H locs hP hD hS => ?_)
      refine lv_iconst (v := nI (0)) hx hb d_Mo_divide_IIII_32 (by decide) ?_
      exact vx_ret (W.widen (k := 5) (n := 30) (Nat.le_of_ble_eq_true rfl) (Nat.le_of_ble_eq_true rfl) (W.iret (v := nI (0)) hx hb hr (fun t ht hW => ⟨⟨_, qX (u) (2), rfl, ⟨by rw [hR]; exact MI_X hMI9, by rw [hR]; rfl, fun h => absurd (show (sp_divide x1 x2 x3 x4 A).1 = 0 from h) (by rw [hR]; show ¬ (2 : Nat) = 0; decide)⟩, BM_of ht hP⟩, hS.F ht⟩) hS.2.2 d_Mo_divide_IIII_33))
  · obtain ⟨A9, hMI9, hX9, hR⟩ := hp
    exact vx_ret (W.widen (k := 5) (n := 30) (Nat.le_of_ble_eq_true rfl) (Nat.le_of_ble_eq_true rfl) (W.iret (v := r) hx hb hr (fun t ht hW => ⟨⟨_, u, rfl, ⟨by rw [hR]; exact hMI9, by rw [hR]; exact hX9, fun _ => by rw [hR]⟩, BM_of ht hP⟩, hS.F ht⟩) hS.2.2 d_Mo_divide_IIII_14))
set_option maxHeartbeats 4000000 in
set_option maxRecDepth 100000 in
/-- power -/
theorem c_Mo_power (l : Launch) {D : va_G} {cI cB cR : ClassId} {ad : Nat → Nat} (w : Mt) (sz : Nat) (hl9 : l.stackTraces = false) (x1 x2 n : Int32) (A : Ab) (hMI : MI w A) : vx_Met l y_Mo_power (q_Mo_power :: wA) { frames := 15, cells := 4, slots := 24, locals := 340 } (va_Pc [.ref (ad 0), .int (x1), .int (x2), .int (n)] (PMN D cI cB cR ad w sz)) (va_Qi (fun (r : Int32) (w1 : Mt) => pw9 (sp_power x1 x2 n A) r w1) (BM D cI cB cR ad) (AM ad sz)) FX 4 24 (AM ad sz) := by
  refine vx_ofWH (cc := b_Mo_power) (maxL := 5) (ret := (some (.int))) (hh := [(5, 12, 13, 53), (5, 12, 23, 66)]) (by decide) rfl ?_
  intro p e s m args below meth c s₁ B hml hv
  obtain ⟨rfl, ⟨hsz, hP, hD0, hKW⟩, hNc⟩ := hv
  have hx := B.exec
  have hb := B.bytes
  have hr := B.returns
  have hts := atoms_spec (ws := q_Mo_power :: wA) B.pre
  have hown : s.vm.findClass R_Mo = some m.cls := findClass_of_methodNamed B.named
  have hlocks := B.notSynchronized
  subst hsz
  have hD := NM_AM (sz := s.heap.size) hD0
  have hS : va_S (AM ad s.heap.size) s.heap s.heap [] := va_S.rf
  have hl := lv_entry ([.ref (ad 0), .int (x1), .int (x2), .int (n)]) (n := 5) (Nat.le_of_ble_eq_true rfl)
  rw [lg_entry_eq]
  generalize (lg_sl ([.ref (ad 0), .int (x1), .int (x2), .int (n)]) ++ List.replicate (5 - (lg_sl ([.ref (ad 0), .int (x1), .int (x2), .int (n)])).length) Slot.unset).toArray = ls at hl ⊢
  have hl : lv_has ls 5 [(0, .ref (ad 0)), (1, .int (x1)), (2, .int (x2)), (3, .int (n))] := hl
  have htb := vx_table (x := y_Mo_power) B (hts _ List.mem_cons_self)
  refine lv_aload_n hx hb d_Mo_power_0 rfl (lv_at hl 0 rfl) ?_
  refine lv_iconst (v := nI (0)) hx hb d_Mo_power_1 (by decide) ?_
  refine mw_pX hx hb hts hown hKW.1 hP hD hS lf_Mo_183 d_Mo_power_2 (fun H locs hP hD hS => ?_)
  have hM0 : MI (qX w 0) A := MI_X hMI
  refine lv_aload_n hx hb d_Mo_power_5 rfl (lv_at hl 0 rfl) ?_
  refine lv_iload_n hx hb d_Mo_power_6 rfl (lv_at hl 1 rfl) ?_
  refine lv_iload_n hx hb d_Mo_power_7 rfl (lv_at hl 2 rfl) ?_
  refine lv_iload_n hx hb d_Mo_power_8 rfl (lv_at hl 3 rfl) ?_
  refine yC_i (As := [.int (x1), .int (x2), .int (n)]) (rest := []) (n := 3) ⟨hx, hb, hml, hown, hts⟩ (c_Mo_power0 l (qX w 0) _ hl9 x1 x2 n A hM0) (cwV0 3 hts lm_Mo_210 im_Mo_power0 se_Mo_power0 in_Mo kq_Mo_power0 rfl rfl rfl (by decide +kernel) ⟨Nat.le_of_ble_eq_true rfl, Nat.le_of_ble_eq_true rfl⟩) (recMo hKW.1 hP) hKW hP hD hS rfl hl.1 rfl (Nat.le_of_ble_eq_true rfl) d_Mo_power_9 ⟨Nat.le_of_ble_eq_true rfl, Nat.le_of_ble_eq_true rfl⟩ (fun E ce q9 u H locs hp hP hD hS hcell hcv hcl => ?_) (fun r u H locs hp hP hD hS => ?_)
  · obtain ⟨A9, hMI9, hor⟩ := hp
    rcases hor with ⟨hE, hR⟩ | ⟨hE, hR⟩
    · subst hE
      refine vx_catch (own := R_Mo) (name := E_IA) hown [] ⟨5, 12, 13, 53⟩ [⟨5, 12, 23, 66⟩] htb (fun z hz => absurd hz List.not_mem_nil) (by decide) (by decide) (hA_ hts lc_Mo_53) (cs_IA hKW.2.1.1) hcell hcv hcl ?_
      refine lv_astore (lv' := [(4, .ref (q9)), (0, .ref (ad 0)), (1, .int (x1)), (2, .int (x2)), (3, .int (n))]) hx hb d_Mo_power_13 hl (by decide) rfl (fun ls hl => ?_)
      refine lv_aload_n hx hb d_Mo_power_15 rfl (lv_at hl 1 rfl) ?_
      refine lv_iconst (v := nI (1)) hx hb d_Mo_power_16 (by decide) ?_
      refine mw_pX hx hb hts hown hKW.1 hP hD hS lf_Mo_183 d_Mo_power_17 (fun H locs hP hD hS => ?_)
      refine lv_goto (tgt := 30) hx hb d_Mo_power_20 (by decide) ?_
      refine lv_iconst (v := nI (0)) hx hb d_Mo_power_30 (by decide) ?_
      exact vx_ret (W.widen (k := 4) (n := 24) (Nat.le_of_ble_eq_true rfl) (Nat.le_of_ble_eq_true rfl) (W.iret (v := nI (0)) hx hb hr (fun t ht hW => ⟨⟨_, qX (u) (1), rfl, ⟨by rw [hR]; exact MI_X hMI9, by rw [hR]; rfl, fun h => absurd (show (sp_power x1 x2 n A).1 = 0 from h) (by rw [hR]; show ¬ (1 : Nat) = 0; decide)⟩, BM_of ht hP⟩, hS.F ht⟩) hS.2.2 d_Mo_power_31))
    · subst hE
      refine vx_catch (own := R_Mo) (name := E_IS) hown [⟨5, 12, 13, 53⟩] ⟨5, 12, 23, 66⟩ [] htb (fun z hz => by rw [List.mem_singleton.mp hz]; exact Or.inr ⟨by decide, E_IA, hA_ hts lc_Mo_53, hNc.1⟩) (by decide) (by decide) (hA_ hts lc_Mo_66) (cs_IS hKW.2.1.1) hcell hcv hcl ?_
      refine lv_astore (lv' := [(4, .ref (q9)), (0, .ref (ad 0)), (1, .int (x1)), (2, .int (x2)), (3, .int (n))]) hx hb d_Mo_power_23 hl (by decide) rfl (fun ls hl => ?_)
      refine lv_aload_n hx hb d_Mo_power_25 rfl (lv_at hl 1 rfl) ?_
      refine lv_iconst (v := nI (2)) hx hb d_Mo_power_26 (by decide) ?_
      refine mw_pX hx hb hts hown hKW.1 hP hD hS lf_Mo_183 d_Mo_power_27 (fun H locs hP hD hS => ?_)
      refine lv_iconst (v := nI (0)) hx hb d_Mo_power_30 (by decide) ?_
      exact vx_ret (W.widen (k := 4) (n := 24) (Nat.le_of_ble_eq_true rfl) (Nat.le_of_ble_eq_true rfl) (W.iret (v := nI (0)) hx hb hr (fun t ht hW => ⟨⟨_, qX (u) (2), rfl, ⟨by rw [hR]; exact MI_X hMI9, by rw [hR]; rfl, fun h => absurd (show (sp_power x1 x2 n A).1 = 0 from h) (by rw [hR]; show ¬ (2 : Nat) = 0; decide)⟩, BM_of ht hP⟩, hS.F ht⟩) hS.2.2 d_Mo_power_31))
  · obtain ⟨A9, hMI9, hX9, hR⟩ := hp
    exact vx_ret (W.widen (k := 4) (n := 24) (Nat.le_of_ble_eq_true rfl) (Nat.le_of_ble_eq_true rfl) (W.iret (v := r) hx hb hr (fun t ht hW => ⟨⟨_, u, rfl, ⟨by rw [hR]; exact hMI9, by rw [hR]; exact hX9, fun _ => by rw [hR]⟩, BM_of ht hP⟩, hS.F ht⟩) hS.2.2 d_Mo_power_12))
set_option maxHeartbeats 4000000 in
set_option maxRecDepth 100000 in
/-- root -/
theorem c_Mo_root (l : Launch) {D : va_G} {cI cB cR : ClassId} {ad : Nat → Nat} (w : Mt) (sz : Nat) (hl9 : l.stackTraces = false) (x1 x2 n : Int32) (A : Ab) (hMI : MI w A) : vx_Met l y_Mo_root (q_Mo_root :: wA) { frames := 17, cells := 3, slots := 18, locals := 360 } (va_Pc [.ref (ad 0), .int (x1), .int (x2), .int (n)] (PMN D cI cB cR ad w sz)) (va_Qi (fun (r : Int32) (w1 : Mt) => pw9 (sp_root x1 x2 n A) r w1) (BM D cI cB cR ad) (AM ad sz)) FX 3 18 (AM ad sz) := by
  refine vx_ofWH (cc := b_Mo_root) (maxL := 5) (ret := (some (.int))) (hh := [(5, 12, 13, 53)]) (by decide) rfl ?_
  intro p e s m args below meth c s₁ B hml hv
  obtain ⟨rfl, ⟨hsz, hP, hD0, hKW⟩, hNc⟩ := hv
  have hx := B.exec
  have hb := B.bytes
  have hr := B.returns
  have hts := atoms_spec (ws := q_Mo_root :: wA) B.pre
  have hown : s.vm.findClass R_Mo = some m.cls := findClass_of_methodNamed B.named
  have hlocks := B.notSynchronized
  subst hsz
  have hD := NM_AM (sz := s.heap.size) hD0
  have hS : va_S (AM ad s.heap.size) s.heap s.heap [] := va_S.rf
  have hl := lv_entry ([.ref (ad 0), .int (x1), .int (x2), .int (n)]) (n := 5) (Nat.le_of_ble_eq_true rfl)
  rw [lg_entry_eq]
  generalize (lg_sl ([.ref (ad 0), .int (x1), .int (x2), .int (n)]) ++ List.replicate (5 - (lg_sl ([.ref (ad 0), .int (x1), .int (x2), .int (n)])).length) Slot.unset).toArray = ls at hl ⊢
  have hl : lv_has ls 5 [(0, .ref (ad 0)), (1, .int (x1)), (2, .int (x2)), (3, .int (n))] := hl
  have htb := vx_table (x := y_Mo_root) B (hts _ List.mem_cons_self)
  refine lv_aload_n hx hb d_Mo_root_0 rfl (lv_at hl 0 rfl) ?_
  refine lv_iconst (v := nI (0)) hx hb d_Mo_root_1 (by decide) ?_
  refine mw_pX hx hb hts hown hKW.1 hP hD hS lf_Mo_183 d_Mo_root_2 (fun H locs hP hD hS => ?_)
  have hM0 : MI (qX w 0) A := MI_X hMI
  refine lv_aload_n hx hb d_Mo_root_5 rfl (lv_at hl 0 rfl) ?_
  refine lv_iload_n hx hb d_Mo_root_6 rfl (lv_at hl 1 rfl) ?_
  refine lv_iload_n hx hb d_Mo_root_7 rfl (lv_at hl 2 rfl) ?_
  refine lv_iload_n hx hb d_Mo_root_8 rfl (lv_at hl 3 rfl) ?_
  refine yC_i (As := [.int (x1), .int (x2), .int (n)]) (rest := []) (n := 3) ⟨hx, hb, hml, hown, hts⟩ (c_Mo_root0 l (qX w 0) _ hl9 x1 x2 n A hM0) (cwV0 3 hts lm_Mo_213 im_Mo_root0 se_Mo_root0 in_Mo kq_Mo_root0 rfl rfl rfl (by decide +kernel) ⟨Nat.le_of_ble_eq_true rfl, Nat.le_of_ble_eq_true rfl⟩) (recMo hKW.1 hP) hKW hP hD hS rfl hl.1 rfl (Nat.le_of_ble_eq_true rfl) d_Mo_root_9 ⟨Nat.le_of_ble_eq_true rfl, Nat.le_of_ble_eq_true rfl⟩ (fun E ce q9 u H locs hp hP hD hS hcell hcv hcl => ?_) (fun r u H locs hp hP hD hS => ?_)
  · obtain ⟨A9, hMI9, hor⟩ := hp
    rcases hor with ⟨hE, hR⟩ | ⟨hE, hR⟩
    · subst hE
      refine vx_catch (own := R_Mo) (name := E_IA) hown [] ⟨5, 12, 13, 53⟩ [] htb (fun z hz => absurd hz List.not_mem_nil) (by decide) (by decide) (hA_ hts lc_Mo_53) (cs_IA hKW.2.1.1) hcell hcv hcl ?_
      refine lv_astore (lv' := [(4, .ref (q9)), (0, .ref (ad 0)), (1, .int (x1)), (2, .int (x2)), (3, .int (n))]) hx hb d_Mo_root_13 hl (by decide) rfl (fun ls hl => ?_)
      refine lv_aload_n hx hb d_Mo_root_15 rfl (lv_at hl 1 rfl) ?_
      refine lv_iconst (v := nI (1)) hx hb d_Mo_root_16 (by decide) ?_
      refine mw_pX hx hb hts hown hKW.1 hP hD hS lf_Mo_183 d_Mo_root_17 (fun H locs hP hD hS => ?_)
      refine lv_iconst (v := nI (0)) hx hb d_Mo_root_20 (by decide) ?_
      exact vx_ret (W.widen (k := 3) (n := 18) (Nat.le_of_ble_eq_true rfl) (Nat.le_of_ble_eq_true rfl) (W.iret (v := nI (0)) hx hb hr (fun t ht hW => ⟨⟨_, qX (u) (1), rfl, ⟨by rw [hR]; exact MI_X hMI9, by rw [hR]; rfl, fun h => absurd (show (sp_root x1 x2 n A).1 = 0 from h) (by rw [hR]; show ¬ (1 : Nat) = 0; decide)⟩, BM_of ht hP⟩, hS.F ht⟩) hS.2.2 d_Mo_root_21))
    · subst hE
      exfalso
      unfold sp_root at hR
      split at hR <;> simp at hR
  · obtain ⟨A9, hMI9, hX9, hR⟩ := hp
    exact vx_ret (W.widen (k := 3) (n := 18) (Nat.le_of_ble_eq_true rfl) (Nat.le_of_ble_eq_true rfl) (W.iret (v := r) hx hb hr (fun t ht hW => ⟨⟨_, u, rfl, ⟨by rw [hR]; exact hMI9, by rw [hR]; exact hX9, fun _ => by rw [hR]⟩, BM_of ht hP⟩, hS.F ht⟩) hS.2.2 d_Mo_root_12))
set_option maxHeartbeats 4000000 in
set_option maxRecDepth 100000 in
/-- compare -/
theorem c_Mo_compare (l : Launch) {D : va_G} {cI cB cR : ClassId} {ad : Nat → Nat} (w : Mt) (sz : Nat) (hl9 : l.stackTraces = false) (x1 x2 : Int32) (A : Ab) (hMI : MI w A) : vx_Met l y_Mo_compare (q_Mo_compare :: wA) { frames := 13, cells := 2, slots := 12, locals := 300 } (va_Pc [.ref (ad 0), .int (x1), .int (x2)] (PMN D cI cB cR ad w sz)) (va_Qi (fun (r : Int32) (w1 : Mt) => pw9 (sp_compare x1 x2 A) r w1) (BM D cI cB cR ad) (AM ad sz)) FX 2 12 (AM ad sz) := by
  refine vx_ofWH (cc := b_Mo_compare) (maxL := 4) (ret := (some (.int))) (hh := [(5, 11, 12, 53)]) (by decide) rfl ?_
  intro p e s m args below meth c s₁ B hml hv
  obtain ⟨rfl, ⟨hsz, hP, hD0, hKW⟩, hNc⟩ := hv
  have hx := B.exec
  have hb := B.bytes
  have hr := B.returns
  have hts := atoms_spec (ws := q_Mo_compare :: wA) B.pre
  have hown : s.vm.findClass R_Mo = some m.cls := findClass_of_methodNamed B.named
  have hlocks := B.notSynchronized
  subst hsz
  have hD := NM_AM (sz := s.heap.size) hD0
  have hS : va_S (AM ad s.heap.size) s.heap s.heap [] := va_S.rf
  have hl := lv_entry ([.ref (ad 0), .int (x1), .int (x2)]) (n := 4) (Nat.le_of_ble_eq_true rfl)
  rw [lg_entry_eq]
  generalize (lg_sl ([.ref (ad 0), .int (x1), .int (x2)]) ++ List.replicate (4 - (lg_sl ([.ref (ad 0), .int (x1), .int (x2)])).length) Slot.unset).toArray = ls at hl ⊢
  have hl : lv_has ls 4 [(0, .ref (ad 0)), (1, .int (x1)), (2, .int (x2))] := hl
  have htb := vx_table (x := y_Mo_compare) B (hts _ List.mem_cons_self)
  refine lv_aload_n hx hb d_Mo_compare_0 rfl (lv_at hl 0 rfl) ?_
  refine lv_iconst (v := nI (0)) hx hb d_Mo_compare_1 (by decide) ?_
  refine mw_pX hx hb hts hown hKW.1 hP hD hS lf_Mo_183 d_Mo_compare_2 (fun H locs hP hD hS => ?_)
  have hM0 : MI (qX w 0) A := MI_X hMI
  refine lv_aload_n hx hb d_Mo_compare_5 rfl (lv_at hl 0 rfl) ?_
  refine lv_iload_n hx hb d_Mo_compare_6 rfl (lv_at hl 1 rfl) ?_
  refine lv_iload_n hx hb d_Mo_compare_7 rfl (lv_at hl 2 rfl) ?_
  refine yC_i (As := [.int (x1), .int (x2)]) (rest := []) (n := 2) ⟨hx, hb, hml, hown, hts⟩ (c_Mo_compare0 l (qX w 0) _ hl9 x1 x2 A hM0) (cwV0 2 hts lm_Mo_216 im_Mo_compare0 se_Mo_compare0 in_Mo kq_Mo_compare0 rfl rfl rfl (by decide +kernel) ⟨Nat.le_of_ble_eq_true rfl, Nat.le_of_ble_eq_true rfl⟩) (recMo hKW.1 hP) hKW hP hD hS rfl hl.1 rfl (Nat.le_of_ble_eq_true rfl) d_Mo_compare_8 ⟨Nat.le_of_ble_eq_true rfl, Nat.le_of_ble_eq_true rfl⟩ (fun E ce q9 u H locs hp hP hD hS hcell hcv hcl => ?_) (fun r u H locs hp hP hD hS => ?_)
  · obtain ⟨A9, hMI9, hor⟩ := hp
    rcases hor with ⟨hE, hR⟩ | ⟨hE, hR⟩
    · subst hE
      refine vx_catch (own := R_Mo) (name := E_IA) hown [] ⟨5, 11, 12, 53⟩ [] htb (fun z hz => absurd hz List.not_mem_nil) (by decide) (by decide) (hA_ hts lc_Mo_53) (cs_IA hKW.2.1.1) hcell hcv hcl ?_
      refine lv_astore_n (lv' := [(3, .ref (q9)), (0, .ref (ad 0)), (1, .int (x1)), (2, .int (x2))]) hx hb d_Mo_compare_12 rfl hl (by decide) rfl (fun ls hl => ?_)
      refine lv_aload_n hx hb d_Mo_compare_13 rfl (lv_at hl 1 rfl) ?_
      refine lv_iconst (v := nI (1)) hx hb d_Mo_compare_14 (by decide) ?_
      refine mw_pX hx hb hts hown hKW.1 hP hD hS lf_Mo_183 d_Mo_compare_15 (fun H locs hP hD hS => ?_)
      refine lv_iconst (v := nI (0)) hx hb d_Mo_compare_18 (by decide) ?_
      exact vx_ret (W.widen (k := 2) (n := 12) (Nat.le_of_ble_eq_true rfl) (Nat.le_of_ble_eq_true rfl) (W.iret (v := nI (0)) hx hb hr (fun t ht hW => ⟨⟨_, qX (u) (1), rfl, ⟨by rw [hR]; exact MI_X hMI9, by rw [hR]; rfl, fun h => absurd (show (sp_compare x1 x2 A).1 = 0 from h) (by rw [hR]; show ¬ (1 : Nat) = 0; decide)⟩, BM_of ht hP⟩, hS.F ht⟩) hS.2.2 d_Mo_compare_19))
    · subst hE
      exfalso
      unfold sp_compare at hR
      split at hR <;> simp at hR
  · obtain ⟨A9, hMI9, hX9, hR⟩ := hp
    exact vx_ret (W.widen (k := 2) (n := 12) (Nat.le_of_ble_eq_true rfl) (Nat.le_of_ble_eq_true rfl) (W.iret (v := r) hx hb hr (fun t ht hW => ⟨⟨_, u, rfl, ⟨by rw [hR]; exact hMI9, by rw [hR]; exact hX9, fun _ => by rw [hR]⟩, BM_of ht hP⟩, hS.F ht⟩) hS.2.2 d_Mo_compare_11))
set_option maxHeartbeats 4000000 in
set_option maxRecDepth 100000 in
/-- bits -/
theorem c_Mo_bits (l : Launch) {D : va_G} {cI cB cR : ClassId} {ad : Nat → Nat} (w : Mt) (sz : Nat) (hl9 : l.stackTraces = false) (x1 : Int32) (A : Ab) (hMI : MI w A) : vx_Met l y_Mo_bits (q_Mo_bits :: wA) { frames := 13, cells := 1, slots := 6, locals := 300 } (va_Pc [.ref (ad 0), .int (x1)] (PMN D cI cB cR ad w sz)) (va_Qi (fun (r : Int32) (w1 : Mt) => pw9 (sp_bits x1 A) r w1) (BM D cI cB cR ad) (AM ad sz)) FX 1 6 (AM ad sz) := by
  refine vx_ofWH (cc := b_Mo_bits) (maxL := 3) (ret := (some (.int))) (hh := [(5, 10, 11, 53)]) (by decide) rfl ?_
  intro p e s m args below meth c s₁ B hml hv
  obtain ⟨rfl, ⟨hsz, hP, hD0, hKW⟩, hNc⟩ := hv
  have hx := B.exec
  have hb := B.bytes
  have hr := B.returns
  have hts := atoms_spec (ws := q_Mo_bits :: wA) B.pre
  have hown : s.vm.findClass R_Mo = some m.cls := findClass_of_methodNamed B.named
  have hlocks := B.notSynchronized
  subst hsz
  have hD := NM_AM (sz := s.heap.size) hD0
  have hS : va_S (AM ad s.heap.size) s.heap s.heap [] := va_S.rf
  have hl := lv_entry ([.ref (ad 0), .int (x1)]) (n := 3) (Nat.le_of_ble_eq_true rfl)
  rw [lg_entry_eq]
  generalize (lg_sl ([.ref (ad 0), .int (x1)]) ++ List.replicate (3 - (lg_sl ([.ref (ad 0), .int (x1)])).length) Slot.unset).toArray = ls at hl ⊢
  have hl : lv_has ls 3 [(0, .ref (ad 0)), (1, .int (x1))] := hl
  have htb := vx_table (x := y_Mo_bits) B (hts _ List.mem_cons_self)
  refine lv_aload_n hx hb d_Mo_bits_0 rfl (lv_at hl 0 rfl) ?_
  refine lv_iconst (v := nI (0)) hx hb d_Mo_bits_1 (by decide) ?_
  refine mw_pX hx hb hts hown hKW.1 hP hD hS lf_Mo_183 d_Mo_bits_2 (fun H locs hP hD hS => ?_)
  have hM0 : MI (qX w 0) A := MI_X hMI
  refine lv_aload_n hx hb d_Mo_bits_5 rfl (lv_at hl 0 rfl) ?_
  refine lv_iload_n hx hb d_Mo_bits_6 rfl (lv_at hl 1 rfl) ?_
  refine yC_i (As := [.int (x1)]) (rest := []) (n := 1) ⟨hx, hb, hml, hown, hts⟩ (c_Mo_bits0 l (qX w 0) _ hl9 x1 A hM0) (cwV0 1 hts lm_Mo_219 im_Mo_bits0 se_Mo_bits0 in_Mo kq_Mo_bits0 rfl rfl rfl (by decide +kernel) ⟨Nat.le_of_ble_eq_true rfl, Nat.le_of_ble_eq_true rfl⟩) (recMo hKW.1 hP) hKW hP hD hS rfl hl.1 rfl (Nat.le_of_ble_eq_true rfl) d_Mo_bits_7 ⟨Nat.le_of_ble_eq_true rfl, Nat.le_of_ble_eq_true rfl⟩ (fun E ce q9 u H locs hp hP hD hS hcell hcv hcl => ?_) (fun r u H locs hp hP hD hS => ?_)
  · obtain ⟨A9, hMI9, hor⟩ := hp
    rcases hor with ⟨hE, hR⟩ | ⟨hE, hR⟩
    · subst hE
      refine vx_catch (own := R_Mo) (name := E_IA) hown [] ⟨5, 10, 11, 53⟩ [] htb (fun z hz => absurd hz List.not_mem_nil) (by decide) (by decide) (hA_ hts lc_Mo_53) (cs_IA hKW.2.1.1) hcell hcv hcl ?_
      refine lv_astore_n (lv' := [(2, .ref (q9)), (0, .ref (ad 0)), (1, .int (x1))]) hx hb d_Mo_bits_11 rfl hl (by decide) rfl (fun ls hl => ?_)
      refine lv_aload_n hx hb d_Mo_bits_12 rfl (lv_at hl 1 rfl) ?_
      refine lv_iconst (v := nI (1)) hx hb d_Mo_bits_13 (by decide) ?_
      refine mw_pX hx hb hts hown hKW.1 hP hD hS lf_Mo_183 d_Mo_bits_14 (fun H locs hP hD hS => ?_)
      refine lv_iconst (v := nI (0)) hx hb d_Mo_bits_17 (by decide) ?_
      exact vx_ret (W.widen (k := 1) (n := 6) (Nat.le_of_ble_eq_true rfl) (Nat.le_of_ble_eq_true rfl) (W.iret (v := nI (0)) hx hb hr (fun t ht hW => ⟨⟨_, qX (u) (1), rfl, ⟨by rw [hR]; exact MI_X hMI9, by rw [hR]; rfl, fun h => absurd (show (sp_bits x1 A).1 = 0 from h) (by rw [hR]; show ¬ (1 : Nat) = 0; decide)⟩, BM_of ht hP⟩, hS.F ht⟩) hS.2.2 d_Mo_bits_18))
    · subst hE
      exfalso
      unfold sp_bits at hR
      split at hR <;> simp at hR
  · obtain ⟨A9, hMI9, hX9, hR⟩ := hp
    exact vx_ret (W.widen (k := 1) (n := 6) (Nat.le_of_ble_eq_true rfl) (Nat.le_of_ble_eq_true rfl) (W.iret (v := r) hx hb hr (fun t ht hW => ⟨⟨_, u, rfl, ⟨by rw [hR]; exact hMI9, by rw [hR]; exact hX9, fun _ => by rw [hR]⟩, BM_of ht hP⟩, hS.F ht⟩) hS.2.2 d_Mo_bits_10))
set_option maxHeartbeats 4000000 in
set_option maxRecDepth 100000 in
/-- word -/
theorem c_Mo_word (l : Launch) {D : va_G} {cI cB cR : ClassId} {ad : Nat → Nat} (w : Mt) (sz : Nat) (hl9 : l.stackTraces = false) (x1 x2 : Int32) (A : Ab) (hMI : MI w A) : vx_Met l y_Mo_word (q_Mo_word :: wA) { frames := 13, cells := 2, slots := 12, locals := 300 } (va_Pc [.ref (ad 0), .int (x1), .int (x2)] (PMN D cI cB cR ad w sz)) (va_Ql (fun (r : Int64) (w1 : Mt) => pwl (sp_word x1 x2 A) r w1) (BM D cI cB cR ad) (AM ad sz)) FX 2 12 (AM ad sz) := by
  refine vx_ofWH (cc := b_Mo_word) (maxL := 4) (ret := (some (.long))) (hh := [(5, 11, 12, 53)]) (by decide) rfl ?_
  intro p e s m args below meth c s₁ B hml hv
  obtain ⟨rfl, ⟨hsz, hP, hD0, hKW⟩, hNc⟩ := hv
  have hx := B.exec
  have hb := B.bytes
  have hr := B.returns
  have hts := atoms_spec (ws := q_Mo_word :: wA) B.pre
  have hown : s.vm.findClass R_Mo = some m.cls := findClass_of_methodNamed B.named
  have hlocks := B.notSynchronized
  subst hsz
  have hD := NM_AM (sz := s.heap.size) hD0
  have hS : va_S (AM ad s.heap.size) s.heap s.heap [] := va_S.rf
  have hl := lv_entry ([.ref (ad 0), .int (x1), .int (x2)]) (n := 4) (Nat.le_of_ble_eq_true rfl)
  rw [lg_entry_eq]
  generalize (lg_sl ([.ref (ad 0), .int (x1), .int (x2)]) ++ List.replicate (4 - (lg_sl ([.ref (ad 0), .int (x1), .int (x2)])).length) Slot.unset).toArray = ls at hl ⊢
  have hl : lv_has ls 4 [(0, .ref (ad 0)), (1, .int (x1)), (2, .int (x2))] := hl
  have htb := vx_table (x := y_Mo_word) B (hts _ List.mem_cons_self)
  refine lv_aload_n hx hb d_Mo_word_0 rfl (lv_at hl 0 rfl) ?_
  refine lv_iconst (v := nI (0)) hx hb d_Mo_word_1 (by decide) ?_
  refine mw_pX hx hb hts hown hKW.1 hP hD hS lf_Mo_183 d_Mo_word_2 (fun H locs hP hD hS => ?_)
  have hM0 : MI (qX w 0) A := MI_X hMI
  refine lv_aload_n hx hb d_Mo_word_5 rfl (lv_at hl 0 rfl) ?_
  refine lv_iload_n hx hb d_Mo_word_6 rfl (lv_at hl 1 rfl) ?_
  refine lv_iload_n hx hb d_Mo_word_7 rfl (lv_at hl 2 rfl) ?_
  refine yC_l (As := [.int (x1), .int (x2)]) (rest := []) (n := 2) ⟨hx, hb, hml, hown, hts⟩ (c_Mo_word0 l (qX w 0) _ hl9 x1 x2 A hM0) (cwV0 2 hts lm_Mo_222 im_Mo_word0 se_Mo_word0 in_Mo kq_Mo_word0 rfl rfl rfl (by decide +kernel) ⟨Nat.le_of_ble_eq_true rfl, Nat.le_of_ble_eq_true rfl⟩) (recMo hKW.1 hP) hKW hP hD hS rfl hl.1 rfl (Nat.le_of_ble_eq_true rfl) d_Mo_word_8 ⟨Nat.le_of_ble_eq_true rfl, Nat.le_of_ble_eq_true rfl⟩ (fun E ce q9 u H locs hp hP hD hS hcell hcv hcl => ?_) (fun r u H locs hp hP hD hS => ?_)
  · obtain ⟨A9, hMI9, hor⟩ := hp
    rcases hor with ⟨hE, hR⟩ | ⟨hE, hR⟩
    · subst hE
      refine vx_catch (own := R_Mo) (name := E_IA) hown [] ⟨5, 11, 12, 53⟩ [] htb (fun z hz => absurd hz List.not_mem_nil) (by decide) (by decide) (hA_ hts lc_Mo_53) (cs_IA hKW.2.1.1) hcell hcv hcl ?_
      refine lv_astore_n (lv' := [(3, .ref (q9)), (0, .ref (ad 0)), (1, .int (x1)), (2, .int (x2))]) hx hb d_Mo_word_12 rfl hl (by decide) rfl (fun ls hl => ?_)
      refine lv_aload_n hx hb d_Mo_word_13 rfl (lv_at hl 1 rfl) ?_
      refine lv_iconst (v := nI (1)) hx hb d_Mo_word_14 (by decide) ?_
      refine mw_pX hx hb hts hown hKW.1 hP hD hS lf_Mo_183 d_Mo_word_15 (fun H locs hP hD hS => ?_)
      refine lv_lconst (v := lN (0)) hx hb d_Mo_word_18 (by decide) ?_
      exact vx_ret (W.widen (k := 2) (n := 12) (Nat.le_of_ble_eq_true rfl) (Nat.le_of_ble_eq_true rfl) (W.lret (v := lN (0)) hx hb hr (fun t ht hW => ⟨⟨_, qX (u) (1), rfl, ⟨by rw [hR]; exact MI_X hMI9, by rw [hR]; rfl, fun h => absurd (show (sp_word x1 x2 A).1 = 0 from h) (by rw [hR]; show ¬ (1 : Nat) = 0; decide)⟩, BM_of ht hP⟩, hS.F ht⟩) hS.2.2 d_Mo_word_19))
    · subst hE
      exfalso
      unfold sp_word at hR
      split at hR <;> simp at hR
  · obtain ⟨A9, hMI9, hX9, hR⟩ := hp
    exact vx_ret (W.widen (k := 2) (n := 12) (Nat.le_of_ble_eq_true rfl) (Nat.le_of_ble_eq_true rfl) (W.lret (v := r) hx hb hr (fun t ht hW => ⟨⟨_, u, rfl, ⟨by rw [hR]; exact hMI9, by rw [hR]; exact hX9, fun _ => by rw [hR]⟩, BM_of ht hP⟩, hS.F ht⟩) hS.2.2 d_Mo_word_11))
set_option maxHeartbeats 4000000 in
set_option maxRecDepth 100000 in
/-- feed -/
theorem c_Mo_feed (l : Launch) {D : va_G} {cI cB cR : ClassId} {ad : Nat → Nat} (w : Mt) (sz : Nat) (hl9 : l.stackTraces = false) (a b c9 d e9 : Int32) (A : Ab) (hMI : MI w A) : vx_Met l y_Mo_feed (q_Mo_feed :: wA) { frames := 13, cells := 1, slots := 6, locals := 300 } (va_Pc [.ref (ad 0), .int (a), .int (b), .int (c9), .int (d), .int (e9)] (PMN D cI cB cR ad w sz)) (va_Qv (fun w1 : Mt => pw9 (sp_feed a b c9 d e9 A) 0 w1) (BM D cI cB cR ad) (AM ad sz)) FX 1 6 (AM ad sz) := by
  refine vx_ofWH (cc := b_Mo_feed) (maxL := 7) (ret := none) (hh := [(5, 16, 19, 66)]) (by decide) rfl ?_
  intro p e s m args below meth c s₁ B hml hv
  obtain ⟨rfl, ⟨hsz, hP, hD0, hKW⟩, hNc⟩ := hv
  have hx := B.exec
  have hb := B.bytes
  have hr := B.returns
  have hts := atoms_spec (ws := q_Mo_feed :: wA) B.pre
  have hown : s.vm.findClass R_Mo = some m.cls := findClass_of_methodNamed B.named
  have hlocks := B.notSynchronized
  subst hsz
  have hD := NM_AM (sz := s.heap.size) hD0
  have hS : va_S (AM ad s.heap.size) s.heap s.heap [] := va_S.rf
  have hl := lv_entry ([.ref (ad 0), .int (a), .int (b), .int (c9), .int (d), .int (e9)]) (n := 7) (Nat.le_of_ble_eq_true rfl)
  rw [lg_entry_eq]
  generalize (lg_sl ([.ref (ad 0), .int (a), .int (b), .int (c9), .int (d), .int (e9)]) ++ List.replicate (7 - (lg_sl ([.ref (ad 0), .int (a), .int (b), .int (c9), .int (d), .int (e9)])).length) Slot.unset).toArray = ls at hl ⊢
  have hl : lv_has ls 7 [(0, .ref (ad 0)), (1, .int (a)), (2, .int (b)), (3, .int (c9)), (4, .int (d)), (5, .int (e9))] := hl
  have htb := vx_table (x := y_Mo_feed) B (hts _ List.mem_cons_self)
  refine lv_aload_n hx hb d_Mo_feed_0 rfl (lv_at hl 0 rfl) ?_
  refine lv_iconst (v := nI (0)) hx hb d_Mo_feed_1 (by decide) ?_
  refine mw_pX hx hb hts hown hKW.1 hP hD hS lf_Mo_183 d_Mo_feed_2 (fun H locs hP hD hS => ?_)
  have hM0 : MI (qX w 0) A := MI_X hMI
  refine lv_aload_n hx hb d_Mo_feed_5 rfl (lv_at hl 0 rfl) ?_
  refine lv_iload_n hx hb d_Mo_feed_6 rfl (lv_at hl 1 rfl) ?_
  refine lv_iload_n hx hb d_Mo_feed_7 rfl (lv_at hl 2 rfl) ?_
  refine lv_iload_n hx hb d_Mo_feed_8 rfl (lv_at hl 3 rfl) ?_
  refine lv_iload hx hb d_Mo_feed_9 (lv_at hl 4 rfl) ?_
  refine lv_iload hx hb d_Mo_feed_11 (lv_at hl 5 rfl) ?_
  refine yC_v (As := [.int (a), .int (b), .int (c9), .int (d), .int (e9)]) (rest := []) (n := 5) ⟨hx, hb, hml, hown, hts⟩ (c_Mo_feed0 l (qX w 0) _ hl9 a b c9 d e9 A hM0) (cwV0 5 hts lm_Mo_226 im_Mo_feed0 se_Mo_feed0 in_Mo kq_Mo_feed0 rfl rfl rfl (by decide +kernel) ⟨Nat.le_of_ble_eq_true rfl, Nat.le_of_ble_eq_true rfl⟩) (recMo hKW.1 hP) hKW hP hD hS rfl hl.1 rfl (Nat.le_of_ble_eq_true rfl) d_Mo_feed_13 ⟨Nat.le_of_ble_eq_true rfl, Nat.le_of_ble_eq_true rfl⟩ (fun E ce q9 u H locs hp hP hD hS hcell hcv hcl => ?_) (fun u H locs hp hP hD hS => ?_)
  · obtain ⟨A9, hMI9, hor⟩ := hp
    rcases hor with ⟨hE, hR⟩ | ⟨hE, hR⟩
    · subst hE
      refine vx_catch (own := R_Mo) (name := E_IS) hown [] ⟨5, 16, 19, 66⟩ [] htb (fun z hz => absurd hz List.not_mem_nil) (by decide) (by decide) (hA_ hts lc_Mo_66) (cs_IS hKW.2.1.1) hcell hcv hcl ?_
      refine lv_astore (lv' := [(6, .ref (q9)), (0, .ref (ad 0)), (1, .int (a)), (2, .int (b)), (3, .int (c9)), (4, .int (d)), (5, .int (e9))]) hx hb d_Mo_feed_19 hl (by decide) rfl (fun ls hl => ?_)
      refine lv_aload_n hx hb d_Mo_feed_21 rfl (lv_at hl 1 rfl) ?_
      refine lv_iconst (v := nI (1)) hx hb d_Mo_feed_22 (by decide) ?_
      refine mw_pX hx hb hts hown hKW.1 hP hD hS lf_Mo_183 d_Mo_feed_23 (fun H locs hP hD hS => ?_)
      exact vx_ret (W.widen (k := 1) (n := 6) (Nat.le_of_ble_eq_true rfl) (Nat.le_of_ble_eq_true rfl) (W.vret hx hb hr (fun t ht hW => ⟨⟨qX (u) (1), rfl, ⟨by rw [hR]; exact MI_X hMI9, by rw [hR]; rfl, fun h => absurd (show (sp_feed a b c9 d e9 A).1 = 0 from h) (by rw [hR]; show ¬ (1 : Nat) = 0; decide)⟩, BM_of ht hP⟩, hS.F ht⟩) hS.2.2 d_Mo_feed_26))
    · subst hE
      exfalso
      unfold sp_feed at hR
      split at hR <;> simp at hR
  · obtain ⟨A9, hMI9, hX9, hR⟩ := hp
    refine lv_goto (tgt := 26) hx hb d_Mo_feed_16 (by decide) ?_
    exact vx_ret (W.widen (k := 1) (n := 6) (Nat.le_of_ble_eq_true rfl) (Nat.le_of_ble_eq_true rfl) (W.vret hx hb hr (fun t ht hW => ⟨⟨u, rfl, ⟨by rw [hR]; exact hMI9, by rw [hR]; exact hX9, fun _ => by rw [hR]⟩, BM_of ht hP⟩, hS.F ht⟩) hS.2.2 d_Mo_feed_26))
set_option maxHeartbeats 4000000 in
set_option maxRecDepth 100000 in
/-- end -/
theorem c_Mo_end (l : Launch) {D : va_G} {cI cB cR : ClassId} {ad : Nat → Nat} (w : Mt) (sz : Nat) (hl9 : l.stackTraces = false) (n : Int32) (A : Ab) (hMI : MI w A) : vx_Met l y_Mo_end (q_Mo_end :: wA) { frames := 13, cells := 1, slots := 6, locals := 300 } (va_Pc [.ref (ad 0), .int (n)] (PMN D cI cB cR ad w sz)) (va_Qi (fun (r : Int32) (w1 : Mt) => pw9 (sp_end n A) r w1) (BM D cI cB cR ad) (AM ad sz)) FX 1 6 (AM ad sz) := by
  refine vx_ofWH (cc := b_Mo_end) (maxL := 3) (ret := (some (.int))) (hh := [(5, 10, 11, 53)]) (by decide) rfl ?_
  intro p e s m args below meth c s₁ B hml hv
  obtain ⟨rfl, ⟨hsz, hP, hD0, hKW⟩, hNc⟩ := hv
  have hx := B.exec
  have hb := B.bytes
  have hr := B.returns
  have hts := atoms_spec (ws := q_Mo_end :: wA) B.pre
  have hown : s.vm.findClass R_Mo = some m.cls := findClass_of_methodNamed B.named
  have hlocks := B.notSynchronized
  subst hsz
  have hD := NM_AM (sz := s.heap.size) hD0
  have hS : va_S (AM ad s.heap.size) s.heap s.heap [] := va_S.rf
  have hl := lv_entry ([.ref (ad 0), .int (n)]) (n := 3) (Nat.le_of_ble_eq_true rfl)
  rw [lg_entry_eq]
  generalize (lg_sl ([.ref (ad 0), .int (n)]) ++ List.replicate (3 - (lg_sl ([.ref (ad 0), .int (n)])).length) Slot.unset).toArray = ls at hl ⊢
  have hl : lv_has ls 3 [(0, .ref (ad 0)), (1, .int (n))] := hl
  have htb := vx_table (x := y_Mo_end) B (hts _ List.mem_cons_self)
  refine lv_aload_n hx hb d_Mo_end_0 rfl (lv_at hl 0 rfl) ?_
  refine lv_iconst (v := nI (0)) hx hb d_Mo_end_1 (by decide) ?_
  refine mw_pX hx hb hts hown hKW.1 hP hD hS lf_Mo_183 d_Mo_end_2 (fun H locs hP hD hS => ?_)
  have hM0 : MI (qX w 0) A := MI_X hMI
  refine lv_aload_n hx hb d_Mo_end_5 rfl (lv_at hl 0 rfl) ?_
  refine lv_iload_n hx hb d_Mo_end_6 rfl (lv_at hl 1 rfl) ?_
  refine yC_i (As := [.int (n)]) (rest := []) (n := 1) ⟨hx, hb, hml, hown, hts⟩ (c_Mo_end0 l (qX w 0) _ hl9 n A hM0) (cwV0 1 hts lm_Mo_230 im_Mo_end0 se_Mo_end0 in_Mo kq_Mo_end0 rfl rfl rfl (by decide +kernel) ⟨Nat.le_of_ble_eq_true rfl, Nat.le_of_ble_eq_true rfl⟩) (recMo hKW.1 hP) hKW hP hD hS rfl hl.1 rfl (Nat.le_of_ble_eq_true rfl) d_Mo_end_7 ⟨Nat.le_of_ble_eq_true rfl, Nat.le_of_ble_eq_true rfl⟩ (fun E ce q9 u H locs hp hP hD hS hcell hcv hcl => ?_) (fun r u H locs hp hP hD hS => ?_)
  · obtain ⟨A9, hMI9, hor⟩ := hp
    rcases hor with ⟨hE, hR⟩ | ⟨hE, hR⟩
    · subst hE
      refine vx_catch (own := R_Mo) (name := E_IA) hown [] ⟨5, 10, 11, 53⟩ [] htb (fun z hz => absurd hz List.not_mem_nil) (by decide) (by decide) (hA_ hts lc_Mo_53) (cs_IA hKW.2.1.1) hcell hcv hcl ?_
      refine lv_astore_n (lv' := [(2, .ref (q9)), (0, .ref (ad 0)), (1, .int (n))]) hx hb d_Mo_end_11 rfl hl (by decide) rfl (fun ls hl => ?_)
      refine lv_aload_n hx hb d_Mo_end_12 rfl (lv_at hl 1 rfl) ?_
      refine lv_iconst (v := nI (1)) hx hb d_Mo_end_13 (by decide) ?_
      refine mw_pX hx hb hts hown hKW.1 hP hD hS lf_Mo_183 d_Mo_end_14 (fun H locs hP hD hS => ?_)
      refine lv_iconst (v := nI (0)) hx hb d_Mo_end_17 (by decide) ?_
      exact vx_ret (W.widen (k := 1) (n := 6) (Nat.le_of_ble_eq_true rfl) (Nat.le_of_ble_eq_true rfl) (W.iret (v := nI (0)) hx hb hr (fun t ht hW => ⟨⟨_, qX (u) (1), rfl, ⟨by rw [hR]; exact MI_X hMI9, by rw [hR]; rfl, fun h => absurd (show (sp_end n A).1 = 0 from h) (by rw [hR]; show ¬ (1 : Nat) = 0; decide)⟩, BM_of ht hP⟩, hS.F ht⟩) hS.2.2 d_Mo_end_18))
    · subst hE
      exfalso
      unfold sp_end at hR
      split at hR <;> simp at hR
  · obtain ⟨A9, hMI9, hX9, hR⟩ := hp
    exact vx_ret (W.widen (k := 1) (n := 6) (Nat.le_of_ble_eq_true rfl) (Nat.le_of_ble_eq_true rfl) (W.iret (v := r) hx hb hr (fun t ht hW => ⟨⟨_, u, rfl, ⟨by rw [hR]; exact hMI9, by rw [hR]; exact hX9, fun _ => by rw [hR]⟩, BM_of ht hP⟩, hS.F ht⟩) hS.2.2 d_Mo_end_10))
set_option maxHeartbeats 4000000 in
set_option maxRecDepth 100000 in
/-- read -/
theorem c_Mo_read (l : Launch) {D : va_G} {cI cB cR : ClassId} {ad : Nat → Nat} (w : Mt) (sz : Nat) (hl9 : l.stackTraces = false) (x1 b : Int32) (A : Ab) (hMI : MI w A) : vx_Met l y_Mo_read (q_Mo_read :: wA) { frames := 15, cells := 3, slots := 18, locals := 340 } (va_Pc [.ref (ad 0), .int (x1), .int (b)] (PMN D cI cB cR ad w sz)) (va_Qi (fun (r : Int32) (w1 : Mt) => pw9 (sp_read x1 b A) r w1) (BM D cI cB cR ad) (AM ad sz)) FX 3 18 (AM ad sz) := by
  refine vx_ofWH (cc := b_Mo_read) (maxL := 4) (ret := (some (.int))) (hh := [(5, 11, 12, 53), (5, 11, 21, 172)]) (by decide) rfl ?_
  intro p e s m args below meth c s₁ B hml hv
  obtain ⟨rfl, ⟨hsz, hP, hD0, hKW⟩, hNc⟩ := hv
  have hx := B.exec
  have hb := B.bytes
  have hr := B.returns
  have hts := atoms_spec (ws := q_Mo_read :: wA) B.pre
  have hown : s.vm.findClass R_Mo = some m.cls := findClass_of_methodNamed B.named
  have hlocks := B.notSynchronized
  subst hsz
  have hD := NM_AM (sz := s.heap.size) hD0
  have hS : va_S (AM ad s.heap.size) s.heap s.heap [] := va_S.rf
  have hl := lv_entry ([.ref (ad 0), .int (x1), .int (b)]) (n := 4) (Nat.le_of_ble_eq_true rfl)
  rw [lg_entry_eq]
  generalize (lg_sl ([.ref (ad 0), .int (x1), .int (b)]) ++ List.replicate (4 - (lg_sl ([.ref (ad 0), .int (x1), .int (b)])).length) Slot.unset).toArray = ls at hl ⊢
  have hl : lv_has ls 4 [(0, .ref (ad 0)), (1, .int (x1)), (2, .int (b))] := hl
  have htb := vx_table (x := y_Mo_read) B (hts _ List.mem_cons_self)
  refine lv_aload_n hx hb d_Mo_read_0 rfl (lv_at hl 0 rfl) ?_
  refine lv_iconst (v := nI (0)) hx hb d_Mo_read_1 (by decide) ?_
  refine mw_pX hx hb hts hown hKW.1 hP hD hS lf_Mo_183 d_Mo_read_2 (fun H locs hP hD hS => ?_)
  have hM0 : MI (qX w 0) A := MI_X hMI
  refine lv_aload_n hx hb d_Mo_read_5 rfl (lv_at hl 0 rfl) ?_
  refine lv_iload_n hx hb d_Mo_read_6 rfl (lv_at hl 1 rfl) ?_
  refine lv_iload_n hx hb d_Mo_read_7 rfl (lv_at hl 2 rfl) ?_
  refine yC_i (As := [.int (x1), .int (b)]) (rest := []) (n := 2) ⟨hx, hb, hml, hown, hts⟩ (c_Mo_read0 l (qX w 0) _ hl9 x1 b A hM0) (cwV0 2 hts lm_Mo_233 im_Mo_read0 se_Mo_read0 in_Mo kq_Mo_read0 rfl rfl rfl (by decide +kernel) ⟨Nat.le_of_ble_eq_true rfl, Nat.le_of_ble_eq_true rfl⟩) (recMo hKW.1 hP) hKW hP hD hS rfl hl.1 rfl (Nat.le_of_ble_eq_true rfl) d_Mo_read_8 ⟨Nat.le_of_ble_eq_true rfl, Nat.le_of_ble_eq_true rfl⟩ (fun E ce q9 u H locs hp hP hD hS hcell hcv hcl => ?_) (fun r u H locs hp hP hD hS => ?_)
  · obtain ⟨A9, hMI9, hor⟩ := hp
    rcases hor with ⟨hE, hR⟩ | ⟨hE, hR⟩
    · subst hE
      refine vx_catch (own := R_Mo) (name := E_IA) hown [] ⟨5, 11, 12, 53⟩ [⟨5, 11, 21, 172⟩] htb (fun z hz => absurd hz List.not_mem_nil) (by decide) (by decide) (hA_ hts lc_Mo_53) (cs_IA hKW.2.1.1) hcell hcv hcl ?_
      refine lv_astore_n (lv' := [(3, .ref (q9)), (0, .ref (ad 0)), (1, .int (x1)), (2, .int (b))]) hx hb d_Mo_read_12 rfl hl (by decide) rfl (fun ls hl => ?_)
      refine lv_aload_n hx hb d_Mo_read_13 rfl (lv_at hl 1 rfl) ?_
      refine lv_iconst (v := nI (1)) hx hb d_Mo_read_14 (by decide) ?_
      refine mw_pX hx hb hts hown hKW.1 hP hD hS lf_Mo_183 d_Mo_read_15 (fun H locs hP hD hS => ?_)
      refine lv_goto (tgt := 27) hx hb d_Mo_read_18 (by decide) ?_
      refine lv_iconst (v := nI (0)) hx hb d_Mo_read_27 (by decide) ?_
      exact vx_ret (W.widen (k := 3) (n := 18) (Nat.le_of_ble_eq_true rfl) (Nat.le_of_ble_eq_true rfl) (W.iret (v := nI (0)) hx hb hr (fun t ht hW => ⟨⟨_, qX (u) (1), rfl, ⟨by rw [hR]; exact MI_X hMI9, by rw [hR]; rfl, fun h => absurd (show (sp_read x1 b A).1 = 0 from h) (by rw [hR]; show ¬ (1 : Nat) = 0; decide)⟩, BM_of ht hP⟩, hS.F ht⟩) hS.2.2 d_Mo_read_28))
    · subst hE
      refine vx_catch (own := R_Mo) (name := E_UO) hown [⟨5, 11, 12, 53⟩] ⟨5, 11, 21, 172⟩ [] htb (fun z hz => by rw [List.mem_singleton.mp hz]; exact Or.inr ⟨by decide, E_IA, hA_ hts lc_Mo_53, hNc.2.2⟩) (by decide) (by decide) (hA_ hts lc_Mo_172) (cs_UO hKW.2.1.1) hcell hcv hcl ?_
      refine lv_astore_n (lv' := [(3, .ref (q9)), (0, .ref (ad 0)), (1, .int (x1)), (2, .int (b))]) hx hb d_Mo_read_21 rfl hl (by decide) rfl (fun ls hl => ?_)
      refine lv_aload_n hx hb d_Mo_read_22 rfl (lv_at hl 1 rfl) ?_
      refine lv_iconst (v := nI (2)) hx hb d_Mo_read_23 (by decide) ?_
      refine mw_pX hx hb hts hown hKW.1 hP hD hS lf_Mo_183 d_Mo_read_24 (fun H locs hP hD hS => ?_)
      refine lv_iconst (v := nI (0)) hx hb d_Mo_read_27 (by decide) ?_
      exact vx_ret (W.widen (k := 3) (n := 18) (Nat.le_of_ble_eq_true rfl) (Nat.le_of_ble_eq_true rfl) (W.iret (v := nI (0)) hx hb hr (fun t ht hW => ⟨⟨_, qX (u) (2), rfl, ⟨by rw [hR]; exact MI_X hMI9, by rw [hR]; rfl, fun h => absurd (show (sp_read x1 b A).1 = 0 from h) (by rw [hR]; show ¬ (2 : Nat) = 0; decide)⟩, BM_of ht hP⟩, hS.F ht⟩) hS.2.2 d_Mo_read_28))
  · obtain ⟨A9, hMI9, hX9, hR⟩ := hp
    exact vx_ret (W.widen (k := 3) (n := 18) (Nat.le_of_ble_eq_true rfl) (Nat.le_of_ble_eq_true rfl) (W.iret (v := r) hx hb hr (fun t ht hW => ⟨⟨_, u, rfl, ⟨by rw [hR]; exact hMI9, by rw [hR]; exact hX9, fun _ => by rw [hR]⟩, BM_of ht hP⟩, hS.F ht⟩) hS.2.2 d_Mo_read_11))
set_option maxHeartbeats 4000000 in
set_option maxRecDepth 100000 in
/-- write -/
theorem c_Mo_write (l : Launch) {D : va_G} {cI cB cR : ClassId} {ad : Nat → Nat} (w : Mt) (sz : Nat) (hl9 : l.stackTraces = false) (x1 b : Int32) (A : Ab) (hMI : MI w A) : vx_Met l y_Mo_write (q_Mo_write :: wA) { frames := 15, cells := 3, slots := 18, locals := 340 } (va_Pc [.ref (ad 0), .int (x1), .int (b)] (PMN D cI cB cR ad w sz)) (va_Qi (fun (r : Int32) (w1 : Mt) => pw9 (sp_write x1 b A) r w1) (BM D cI cB cR ad) (AM ad sz)) FX 3 18 (AM ad sz) := by
  refine vx_ofWH (cc := b_Mo_write) (maxL := 4) (ret := (some (.int))) (hh := [(5, 11, 12, 53), (5, 11, 21, 66)]) (by decide) rfl ?_
  intro p e s m args below meth c s₁ B hml hv
  obtain ⟨rfl, ⟨hsz, hP, hD0, hKW⟩, hNc⟩ := hv
  have hx := B.exec
  have hb := B.bytes
  have hr := B.returns
  have hts := atoms_spec (ws := q_Mo_write :: wA) B.pre
  have hown : s.vm.findClass R_Mo = some m.cls := findClass_of_methodNamed B.named
  have hlocks := B.notSynchronized
  subst hsz
  have hD := NM_AM (sz := s.heap.size) hD0
  have hS : va_S (AM ad s.heap.size) s.heap s.heap [] := va_S.rf
  have hl := lv_entry ([.ref (ad 0), .int (x1), .int (b)]) (n := 4) (Nat.le_of_ble_eq_true rfl)
  rw [lg_entry_eq]
  generalize (lg_sl ([.ref (ad 0), .int (x1), .int (b)]) ++ List.replicate (4 - (lg_sl ([.ref (ad 0), .int (x1), .int (b)])).length) Slot.unset).toArray = ls at hl ⊢
  have hl : lv_has ls 4 [(0, .ref (ad 0)), (1, .int (x1)), (2, .int (b))] := hl
  have htb := vx_table (x := y_Mo_write) B (hts _ List.mem_cons_self)
  refine lv_aload_n hx hb d_Mo_write_0 rfl (lv_at hl 0 rfl) ?_
  refine lv_iconst (v := nI (0)) hx hb d_Mo_write_1 (by decide) ?_
  refine mw_pX hx hb hts hown hKW.1 hP hD hS lf_Mo_183 d_Mo_write_2 (fun H locs hP hD hS => ?_)
  have hM0 : MI (qX w 0) A := MI_X hMI
  refine lv_aload_n hx hb d_Mo_write_5 rfl (lv_at hl 0 rfl) ?_
  refine lv_iload_n hx hb d_Mo_write_6 rfl (lv_at hl 1 rfl) ?_
  refine lv_iload_n hx hb d_Mo_write_7 rfl (lv_at hl 2 rfl) ?_
  refine yC_i (As := [.int (x1), .int (b)]) (rest := []) (n := 2) ⟨hx, hb, hml, hown, hts⟩ (c_Mo_write0 l (qX w 0) _ hl9 x1 b A hM0) (cwV0 2 hts lm_Mo_236 im_Mo_write0 se_Mo_write0 in_Mo kq_Mo_write0 rfl rfl rfl (by decide +kernel) ⟨Nat.le_of_ble_eq_true rfl, Nat.le_of_ble_eq_true rfl⟩) (recMo hKW.1 hP) hKW hP hD hS rfl hl.1 rfl (Nat.le_of_ble_eq_true rfl) d_Mo_write_8 ⟨Nat.le_of_ble_eq_true rfl, Nat.le_of_ble_eq_true rfl⟩ (fun E ce q9 u H locs hp hP hD hS hcell hcv hcl => ?_) (fun r u H locs hp hP hD hS => ?_)
  · obtain ⟨A9, hMI9, hor⟩ := hp
    rcases hor with ⟨hE, hR⟩ | ⟨hE, hR⟩
    · subst hE
      refine vx_catch (own := R_Mo) (name := E_IA) hown [] ⟨5, 11, 12, 53⟩ [⟨5, 11, 21, 66⟩] htb (fun z hz => absurd hz List.not_mem_nil) (by decide) (by decide) (hA_ hts lc_Mo_53) (cs_IA hKW.2.1.1) hcell hcv hcl ?_
      refine lv_astore_n (lv' := [(3, .ref (q9)), (0, .ref (ad 0)), (1, .int (x1)), (2, .int (b))]) hx hb d_Mo_write_12 rfl hl (by decide) rfl (fun ls hl => ?_)
      refine lv_aload_n hx hb d_Mo_write_13 rfl (lv_at hl 1 rfl) ?_
      refine lv_iconst (v := nI (1)) hx hb d_Mo_write_14 (by decide) ?_
      refine mw_pX hx hb hts hown hKW.1 hP hD hS lf_Mo_183 d_Mo_write_15 (fun H locs hP hD hS => ?_)
      refine lv_goto (tgt := 27) hx hb d_Mo_write_18 (by decide) ?_
      refine lv_iconst (v := nI (0)) hx hb d_Mo_write_27 (by decide) ?_
      exact vx_ret (W.widen (k := 3) (n := 18) (Nat.le_of_ble_eq_true rfl) (Nat.le_of_ble_eq_true rfl) (W.iret (v := nI (0)) hx hb hr (fun t ht hW => ⟨⟨_, qX (u) (1), rfl, ⟨by rw [hR]; exact MI_X hMI9, by rw [hR]; rfl, fun h => absurd (show (sp_write x1 b A).1 = 0 from h) (by rw [hR]; show ¬ (1 : Nat) = 0; decide)⟩, BM_of ht hP⟩, hS.F ht⟩) hS.2.2 d_Mo_write_28))
    · subst hE
      refine vx_catch (own := R_Mo) (name := E_IS) hown [⟨5, 11, 12, 53⟩] ⟨5, 11, 21, 66⟩ [] htb (fun z hz => by rw [List.mem_singleton.mp hz]; exact Or.inr ⟨by decide, E_IA, hA_ hts lc_Mo_53, hNc.1⟩) (by decide) (by decide) (hA_ hts lc_Mo_66) (cs_IS hKW.2.1.1) hcell hcv hcl ?_
      refine lv_astore_n (lv' := [(3, .ref (q9)), (0, .ref (ad 0)), (1, .int (x1)), (2, .int (b))]) hx hb d_Mo_write_21 rfl hl (by decide) rfl (fun ls hl => ?_)
      refine lv_aload_n hx hb d_Mo_write_22 rfl (lv_at hl 1 rfl) ?_
      refine lv_iconst (v := nI (2)) hx hb d_Mo_write_23 (by decide) ?_
      refine mw_pX hx hb hts hown hKW.1 hP hD hS lf_Mo_183 d_Mo_write_24 (fun H locs hP hD hS => ?_)
      refine lv_iconst (v := nI (0)) hx hb d_Mo_write_27 (by decide) ?_
      exact vx_ret (W.widen (k := 3) (n := 18) (Nat.le_of_ble_eq_true rfl) (Nat.le_of_ble_eq_true rfl) (W.iret (v := nI (0)) hx hb hr (fun t ht hW => ⟨⟨_, qX (u) (2), rfl, ⟨by rw [hR]; exact MI_X hMI9, by rw [hR]; rfl, fun h => absurd (show (sp_write x1 b A).1 = 0 from h) (by rw [hR]; show ¬ (2 : Nat) = 0; decide)⟩, BM_of ht hP⟩, hS.F ht⟩) hS.2.2 d_Mo_write_28))
  · obtain ⟨A9, hMI9, hX9, hR⟩ := hp
    exact vx_ret (W.widen (k := 3) (n := 18) (Nat.le_of_ble_eq_true rfl) (Nat.le_of_ble_eq_true rfl) (W.iret (v := r) hx hb hr (fun t ht hW => ⟨⟨_, u, rfl, ⟨by rw [hR]; exact hMI9, by rw [hR]; exact hX9, fun _ => by rw [hR]⟩, BM_of ht hP⟩, hS.F ht⟩) hS.2.2 d_Mo_write_11))
set_option maxHeartbeats 4000000 in
set_option maxRecDepth 100000 in
/-- octet -/
theorem c_Mo_octet (l : Launch) {D : va_G} {cI cB cR : ClassId} {ad : Nat → Nat} (w : Mt) (sz : Nat) (hl9 : l.stackTraces = false) (n : Int32) (A : Ab) (hMI : MI w A) : vx_Met l y_Mo_octet (q_Mo_octet :: wA) { frames := 9, cells := 1, slots := 6, locals := 170 } (va_Pc [.ref (ad 0), .int (n)] (PMN D cI cB cR ad w sz)) (va_Qi (fun (r : Int32) (w1 : Mt) => pw9 (sp_octet n A) r w1) (BM D cI cB cR ad) (AM ad sz)) FX 1 6 (AM ad sz) := by
  refine vx_ofWH (cc := b_Mo_octet) (maxL := 3) (ret := (some (.int))) (hh := [(5, 10, 11, 180)]) (by decide) rfl ?_
  intro p e s m args below meth c s₁ B hml hv
  obtain ⟨rfl, ⟨hsz, hP, hD0, hKW⟩, hNc⟩ := hv
  have hx := B.exec
  have hb := B.bytes
  have hr := B.returns
  have hts := atoms_spec (ws := q_Mo_octet :: wA) B.pre
  have hown : s.vm.findClass R_Mo = some m.cls := findClass_of_methodNamed B.named
  have hlocks := B.notSynchronized
  subst hsz
  have hD := NM_AM (sz := s.heap.size) hD0
  have hS : va_S (AM ad s.heap.size) s.heap s.heap [] := va_S.rf
  have hl := lv_entry ([.ref (ad 0), .int (n)]) (n := 3) (Nat.le_of_ble_eq_true rfl)
  rw [lg_entry_eq]
  generalize (lg_sl ([.ref (ad 0), .int (n)]) ++ List.replicate (3 - (lg_sl ([.ref (ad 0), .int (n)])).length) Slot.unset).toArray = ls at hl ⊢
  have hl : lv_has ls 3 [(0, .ref (ad 0)), (1, .int (n))] := hl
  have htb := vx_table (x := y_Mo_octet) B (hts _ List.mem_cons_self)
  refine lv_aload_n hx hb d_Mo_octet_0 rfl (lv_at hl 0 rfl) ?_
  refine lv_iconst (v := nI (0)) hx hb d_Mo_octet_1 (by decide) ?_
  refine mw_pX hx hb hts hown hKW.1 hP hD hS lf_Mo_183 d_Mo_octet_2 (fun H locs hP hD hS => ?_)
  have hM0 : MI (qX w 0) A := MI_X hMI
  refine lv_aload_n hx hb d_Mo_octet_5 rfl (lv_at hl 0 rfl) ?_
  refine lv_iload_n hx hb d_Mo_octet_6 rfl (lv_at hl 1 rfl) ?_
  refine yC_i (As := [.int (n)]) (rest := []) (n := 1) ⟨hx, hb, hml, hown, hts⟩ (c_Mo_octet0 l (qX w 0) _ hl9 n A hM0) (cwV0 1 hts lm_Mo_239 im_Mo_octet0 se_Mo_octet0 in_Mo kq_Mo_octet0 rfl rfl rfl (by decide +kernel) ⟨Nat.le_of_ble_eq_true rfl, Nat.le_of_ble_eq_true rfl⟩) (recMo hKW.1 hP) hKW hP hD hS rfl hl.1 rfl (Nat.le_of_ble_eq_true rfl) d_Mo_octet_7 ⟨Nat.le_of_ble_eq_true rfl, Nat.le_of_ble_eq_true rfl⟩ (fun E ce q9 u H locs hp hP hD hS hcell hcv hcl => ?_) (fun r u H locs hp hP hD hS => ?_)
  · obtain ⟨A9, hMI9, hor⟩ := hp
    rcases hor with ⟨hE, hR⟩ | ⟨hE, hR⟩
    · subst hE
      refine vx_catch (own := R_Mo) (name := E_NS) hown [] ⟨5, 10, 11, 180⟩ [] htb (fun z hz => absurd hz List.not_mem_nil) (by decide) (by decide) (hA_ hts lc_Mo_180) (cs_NS hKW.2.1.1) hcell hcv hcl ?_
      refine lv_astore_n (lv' := [(2, .ref (q9)), (0, .ref (ad 0)), (1, .int (n))]) hx hb d_Mo_octet_11 rfl hl (by decide) rfl (fun ls hl => ?_)
      refine lv_aload_n hx hb d_Mo_octet_12 rfl (lv_at hl 1 rfl) ?_
      refine lv_iconst (v := nI (1)) hx hb d_Mo_octet_13 (by decide) ?_
      refine mw_pX hx hb hts hown hKW.1 hP hD hS lf_Mo_183 d_Mo_octet_14 (fun H locs hP hD hS => ?_)
      refine lv_iconst (v := nI (0)) hx hb d_Mo_octet_17 (by decide) ?_
      exact vx_ret (W.widen (k := 1) (n := 6) (Nat.le_of_ble_eq_true rfl) (Nat.le_of_ble_eq_true rfl) (W.iret (v := nI (0)) hx hb hr (fun t ht hW => ⟨⟨_, qX (u) (1), rfl, ⟨by rw [hR]; exact MI_X hMI9, by rw [hR]; rfl, fun h => absurd (show (sp_octet n A).1 = 0 from h) (by rw [hR]; show ¬ (1 : Nat) = 0; decide)⟩, BM_of ht hP⟩, hS.F ht⟩) hS.2.2 d_Mo_octet_18))
    · subst hE
      exfalso
      unfold sp_octet at hR
      split at hR <;> simp at hR
  · obtain ⟨A9, hMI9, hX9, hR⟩ := hp
    exact vx_ret (W.widen (k := 1) (n := 6) (Nat.le_of_ble_eq_true rfl) (Nat.le_of_ble_eq_true rfl) (W.iret (v := r) hx hb hr (fun t ht hW => ⟨⟨_, u, rfl, ⟨by rw [hR]; exact hMI9, by rw [hR]; exact hX9, fun _ => by rw [hR]⟩, BM_of ht hP⟩, hS.F ht⟩) hS.2.2 d_Mo_octet_10))
set_option maxHeartbeats 4000000 in
set_option maxRecDepth 100000 in
/-- thrown() -/
theorem c_Mo_thrown (l : Launch) {D : va_G} {cI cB cR : ClassId} {ad : Nat → Nat} (w : Mt) (sz : Nat)  : Met l y_Mo_thrown (q_Mo_thrown :: wA) { frames := 0, cells := 0, slots := 0, locals := 0 } (va_Pc [.ref (ad 0)] (PM D cI cB cR ad w sz)) (va_Qi (fun (r : Int32) (w1 : Mt) => r = nI (mX w) ∧ w1 = w) (BM D cI cB cR ad) (AM ad sz)) 0 0 (AM ad sz) := by
  refine Met.ofW (cc := b_Mo_thrown) (maxL := 1) (ret := (some (.int))) (by decide) rfl ?_
  intro p e s m args below meth c s₁ B hml hv
  obtain ⟨rfl, hsz, hP, hD0, hKW⟩ := hv
  have hx := B.exec
  have hb := B.bytes
  have hr := B.returns
  have hts := atoms_spec (ws := q_Mo_thrown :: wA) B.pre
  have hown : s.vm.findClass R_Mo = some m.cls := findClass_of_methodNamed B.named
  have hlocks := B.notSynchronized
  subst hsz
  have hD := NM_AM (sz := s.heap.size) hD0
  have hS : va_S (AM ad s.heap.size) s.heap s.heap [] := va_S.rf
  have hl := lv_entry ([.ref (ad 0)]) (n := 1) (Nat.le_of_ble_eq_true rfl)
  rw [lg_entry_eq]
  generalize (lg_sl ([.ref (ad 0)]) ++ List.replicate (1 - (lg_sl ([.ref (ad 0)])).length) Slot.unset).toArray = ls at hl ⊢
  have hl : lv_has ls 1 [(0, .ref (ad 0))] := hl
  refine lv_aload_n hx hb d_Mo_thrown_0 rfl (lv_at hl 0 rfl) ?_
  refine mw_gF14 hx hb hts hown hKW.1 hP (n := mX (w)) rfl lf_Mo_183 d_Mo_thrown_1 ?_
  exact W.iret (v := nI (mX (w))) hx hb hr (fun t ht hW => ⟨⟨_, w, rfl, ⟨rfl, rfl⟩, BM_of ht hP⟩, hS.F ht⟩) hS.2.2 d_Mo_thrown_4

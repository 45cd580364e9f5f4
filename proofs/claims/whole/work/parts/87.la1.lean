/-! THE LAW'S HELPERS: a call of the class, its throws told as numbers (rows laid by wip/whole/gen/c_la1.py) -/
/-- the law's row for an answer -/
def OC (cL : ClassId) (qo : Nat) (f : Nat → Int64) : va_W := [(qo, .inl (cL, 1, .inr (.inl f)))]
def AH (ad : Nat → Nat) (qo sz q : Nat) : Prop := AA ad sz q ∨ q = qo
def TH (ad : Nat → Nat) (qo : Nat) (U : State) : Prop := vx_Zq Bundle.tN "UNASSIGNED_STACK" Bundle.steD (AH ad qo U.heap.size) U U.heap ∧ vx_Zq Bundle.tN "SUPPRESSED_SENTINEL" Bundle.listD (AH ad qo U.heap.size) U U.heap
def PH (D : va_G) (cI cB cR cL : ClassId) (ad : Nat → Nat) (qo : Nat) (w : St) (f : Nat → Int64) (sz : Nat) (U : State) : Prop := U.heap.size = sz ∧ (va_P D clA (NC cI cB cR ad w) U.heap ∧ va_D (fun _ => True) (NC cI cB cR ad w)) ∧ (va_P D clA (OC cL qo f) U.heap ∧ ∀ k, k < 36 → ad k ≠ qo) ∧ (va_K D clA (tyA cI cB cR) U ∧ va_K D clA [(cL, .long)] U) ∧ KB U ∧ TH ad qo U ∧ NcA U
def BH (D : va_G) (cI cB cR cL : ClassId) (ad : Nat → Nat) (qo : Nat) (u : St × (Nat → Int64)) (t : State) : Prop := va_P D clA (NC cI cB cR ad u.1) t.heap ∧ va_P D clA (OC cL qo u.2) t.heap
def ph (R : Rs) (r : Int32) (u : St × (Nat → Int64)) : Prop := CI u.1 R.2.2 ∧ r = nI R.1 ∧ (R.1 = 0 → u.2 0 = R.2.1.toInt64)
def phl (R : Nat × Int64 × Ab) (r : Int32) (u : St × (Nat → Int64)) : Prop := CI u.1 R.2.2 ∧ r = nI R.1 ∧ (R.1 = 0 → u.2 0 = R.2.1)
theorem OC_kept {D : va_G} {cL : ClassId} {ad : Nat → Nat} {qo : Nat} {f : Nat → Int64} {H H1 : Heap} (hO : va_P D clA (OC cL qo f) H) (hqo : ∀ k, k < 36 → ad k ≠ qo) (hk : ∀ q : Nat, q < H.size → ¬ AA ad H.size q → H1[q]? = H[q]?) : va_P D clA (OC cL qo f) H1 := by
  have hlt : qo < H.size := (hO 0 _ rfl).lt
  refine hO.kept (fun k q hq => ?_)
  have hz : k < 1 := (List.getElem?_eq_some_iff.mp hq).1
  rw [show k = 0 by omega] at hq
  cases hq
  refine hk qo hlt (fun h => ?_)
  rcases h with ⟨k, h1, h2⟩ | h
  · exact hqo k h1 h2.symm
  · omega
section HC
variable {p : Program} {l : Launch} {e : Env} {R : Room} {s : State} {m : MethodId} {args : Array Value} {below : List Frame} {meth : Method} {c : Code} {H : Heap} {locs : List Loc} {cells slots mc ms : Nat} {Q : State → Prop}
variable {cc bytes : ByteArray} {pc nL maxL index n : Nat} {ls : Array Slot} {rest As st0 : List Value} {D : va_G} {cI cB cR cL : ClassId} {ad : Nat → Nat} {qo : Nat} {f : Nat → Int64} {w : St} {own C : String} {c0 c2 : Cond} {y : MethodName} {ret : Option FieldType} {rm : Room} {b : Addr} {cond : String → St → Prop}
theorem hC_v {post : St → Prop} (S : CallFix p m c cc nL s args (c0 :: wA) own) (hM : vx_Met l y (c2 :: wA) rm (va_Pc (.ref b :: As) (PW D cI cB cR ad w s.heap.size)) (va_Qv post (BW D cI cB cR ad) (AA ad s.heap.size)) (XW D cI cB cR ad cond s.heap.size) mc ms (AA ad s.heap.size)) (cw : CallW R s args own C index y bytes maxL ret (c2 :: wA) rm mc ms n) (hrecv : ∃ cellB : Cell, s.heap[b]? = some cellB ∧ cellB.vm.isStatics = false ∧ s.vm.findClass C = some cellB.cls) (hKW : KW D cI cB cR ad s) (hP : va_P D clA (NC cI cB cR ad w) s.heap) (hD0 : va_D (fun _ => True) (NC cI cB cR ad w)) (hO : va_P D clA (OC cL qo f) s.heap) (hqo : ∀ k, k < 36 → ad k ≠ qo) (hn : As.length = n) (hsize : ls.size = nL) (hstack : st0 = As.reverse ++ .ref b :: rest) (hW : (rest.map fun v => v.category).sum ≤ 8) (hdg : decode cc pc = .ok (.invokevirtual index, 3)) (hf : cells + mc ≤ R.cells ∧ slots + ms ≤ R.slots)
    (kx : ∀ (E : String) (ce : Cell) (q9 : Addr) (u : St) (H1 : Heap) (locs1 : List Loc), cond E u → va_P D clA (NC cI cB cR ad u) H1 → va_P D clA (OC cL qo f) H1 → va_S (AH ad qo s.heap.size) s.heap H1 locs1 → H1[q9]? = some ce → ce.vm = .none → s.vm.findClass E = some ce.cls → vx_W p l e R s m args below meth c H1 locs1 (cells + mc) (slots + ms) Q (F0 m pc ls rest) q9)
    (kk : ∀ (u : St) (H1 : Heap) (locs1 : List Loc), post u → va_P D clA (NC cI cB cR ad u) H1 → va_P D clA (OC cL qo f) H1 → va_S (AH ad qo s.heap.size) s.heap H1 locs1 → W p l e R s m args below meth c H1 locs1 (cells + mc) (slots + ms) Q (F0 m (pc + 3) ls (rest))) : W p l e R s m args below meth c s.heap [] cells slots Q (F0 m pc ls st0) :=
  vx_callv (vx_runV (g := F0 m pc ls st0) S hM cw ⟨PW_blind, hrecv, fun U h1 h2 => ⟨rfl, PW_pre hKW hP (NC_AA hD0) va_S.rf U h1 h2⟩⟩ rfl hn hsize hstack (by show 2 * 0 + _ ≤ _; omega) hdg hf) (va_S.rf : va_S (AH ad qo s.heap.size) s.heap s.heap []) (fun q _ h => Or.inl h) (fun q h => Or.inl h) (fun q _ h => Or.inl h)
    (fun E ce q9 u t H1 locs1 e1 _ _ hb _ hk hS1 h1 h2 h3 => kx E ce q9 u H1 locs1 hb.1 (by have := hb.2; unfold BW at this; rw [e1] at this; exact this) (OC_kept hO hqo hk) hS1 h1 h2 h3)
    (fun u t H1 locs1 e1 _ hp hb _ hk hS1 => kk u H1 locs1 hp (by rw [← e1]; exact hb) (OC_kept hO hqo hk) hS1)
theorem hC_i {post : Int32 → St → Prop} (S : CallFix p m c cc nL s args (c0 :: wA) own) (hM : vx_Met l y (c2 :: wA) rm (va_Pc (.ref b :: As) (PW D cI cB cR ad w s.heap.size)) (va_Qi post (BW D cI cB cR ad) (AA ad s.heap.size)) (XW D cI cB cR ad cond s.heap.size) mc ms (AA ad s.heap.size)) (cw : CallW R s args own C index y bytes maxL ret (c2 :: wA) rm mc ms n) (hrecv : ∃ cellB : Cell, s.heap[b]? = some cellB ∧ cellB.vm.isStatics = false ∧ s.vm.findClass C = some cellB.cls) (hKW : KW D cI cB cR ad s) (hP : va_P D clA (NC cI cB cR ad w) s.heap) (hD0 : va_D (fun _ => True) (NC cI cB cR ad w)) (hO : va_P D clA (OC cL qo f) s.heap) (hqo : ∀ k, k < 36 → ad k ≠ qo) (hn : As.length = n) (hsize : ls.size = nL) (hstack : st0 = As.reverse ++ .ref b :: rest) (hW : (rest.map fun v => v.category).sum ≤ 8) (hdg : decode cc pc = .ok (.invokevirtual index, 3)) (hf : cells + mc ≤ R.cells ∧ slots + ms ≤ R.slots)
    (kx : ∀ (E : String) (ce : Cell) (q9 : Addr) (u : St) (H1 : Heap) (locs1 : List Loc), cond E u → va_P D clA (NC cI cB cR ad u) H1 → va_P D clA (OC cL qo f) H1 → va_S (AH ad qo s.heap.size) s.heap H1 locs1 → H1[q9]? = some ce → ce.vm = .none → s.vm.findClass E = some ce.cls → vx_W p l e R s m args below meth c H1 locs1 (cells + mc) (slots + ms) Q (F0 m pc ls rest) q9)
    (kk : ∀ (r : Int32) (u : St) (H1 : Heap) (locs1 : List Loc), post r u → va_P D clA (NC cI cB cR ad u) H1 → va_P D clA (OC cL qo f) H1 → va_S (AH ad qo s.heap.size) s.heap H1 locs1 → W p l e R s m args below meth c H1 locs1 (cells + mc) (slots + ms) Q (F0 m (pc + 3) ls (.int r :: rest))) : W p l e R s m args below meth c s.heap [] cells slots Q (F0 m pc ls st0) :=
  vx_calli (vx_runV (g := F0 m pc ls st0) S hM cw ⟨PW_blind, hrecv, fun U h1 h2 => ⟨rfl, PW_pre hKW hP (NC_AA hD0) va_S.rf U h1 h2⟩⟩ rfl hn hsize hstack (by show 2 * 0 + _ ≤ _; omega) hdg hf) (va_S.rf : va_S (AH ad qo s.heap.size) s.heap s.heap []) (fun q _ h => Or.inl h) (fun q h => Or.inl h) (fun q _ h => Or.inl h)
    (fun E ce q9 u t H1 locs1 e1 _ _ hb _ hk hS1 h1 h2 h3 => kx E ce q9 u H1 locs1 hb.1 (by have := hb.2; unfold BW at this; rw [e1] at this; exact this) (OC_kept hO hqo hk) hS1 h1 h2 h3)
    (fun r u t H1 locs1 e1 _ hp hb _ hk hS1 => kk r u H1 locs1 hp (by rw [← e1]; exact hb) (OC_kept hO hqo hk) hS1)
theorem hC_l {post : Int64 → St → Prop} (S : CallFix p m c cc nL s args (c0 :: wA) own) (hM : vx_Met l y (c2 :: wA) rm (va_Pc (.ref b :: As) (PW D cI cB cR ad w s.heap.size)) (va_Ql post (BW D cI cB cR ad) (AA ad s.heap.size)) (XW D cI cB cR ad cond s.heap.size) mc ms (AA ad s.heap.size)) (cw : CallW R s args own C index y bytes maxL ret (c2 :: wA) rm mc ms n) (hrecv : ∃ cellB : Cell, s.heap[b]? = some cellB ∧ cellB.vm.isStatics = false ∧ s.vm.findClass C = some cellB.cls) (hKW : KW D cI cB cR ad s) (hP : va_P D clA (NC cI cB cR ad w) s.heap) (hD0 : va_D (fun _ => True) (NC cI cB cR ad w)) (hO : va_P D clA (OC cL qo f) s.heap) (hqo : ∀ k, k < 36 → ad k ≠ qo) (hn : As.length = n) (hsize : ls.size = nL) (hstack : st0 = As.reverse ++ .ref b :: rest) (hW : (rest.map fun v => v.category).sum ≤ 8) (hdg : decode cc pc = .ok (.invokevirtual index, 3)) (hf : cells + mc ≤ R.cells ∧ slots + ms ≤ R.slots)
    (kx : ∀ (E : String) (ce : Cell) (q9 : Addr) (u : St) (H1 : Heap) (locs1 : List Loc), cond E u → va_P D clA (NC cI cB cR ad u) H1 → va_P D clA (OC cL qo f) H1 → va_S (AH ad qo s.heap.size) s.heap H1 locs1 → H1[q9]? = some ce → ce.vm = .none → s.vm.findClass E = some ce.cls → vx_W p l e R s m args below meth c H1 locs1 (cells + mc) (slots + ms) Q (F0 m pc ls rest) q9)
    (kk : ∀ (r : Int64) (u : St) (H1 : Heap) (locs1 : List Loc), post r u → va_P D clA (NC cI cB cR ad u) H1 → va_P D clA (OC cL qo f) H1 → va_S (AH ad qo s.heap.size) s.heap H1 locs1 → W p l e R s m args below meth c H1 locs1 (cells + mc) (slots + ms) Q (F0 m (pc + 3) ls (.long r :: rest))) : W p l e R s m args below meth c s.heap [] cells slots Q (F0 m pc ls st0) :=
  vx_calll (vx_runV (g := F0 m pc ls st0) S hM cw ⟨PW_blind, hrecv, fun U h1 h2 => ⟨rfl, PW_pre hKW hP (NC_AA hD0) va_S.rf U h1 h2⟩⟩ rfl hn hsize hstack (by show 2 * 0 + _ ≤ _; omega) hdg hf) (va_S.rf : va_S (AH ad qo s.heap.size) s.heap s.heap []) (fun q _ h => Or.inl h) (fun q h => Or.inl h) (fun q _ h => Or.inl h)
    (fun E ce q9 u t H1 locs1 e1 _ _ hb _ hk hS1 h1 h2 h3 => kx E ce q9 u H1 locs1 hb.1 (by have := hb.2; unfold BW at this; rw [e1] at this; exact this) (OC_kept hO hqo hk) hS1 h1 h2 h3)
    (fun r u t H1 locs1 e1 _ hp hb _ hk hS1 => kk r u H1 locs1 hp (by rw [← e1]; exact hb) (OC_kept hO hqo hk) hS1)
theorem NCO_at {k : Nat} (h : k < 36) : (NC cI cB cR ad w ++ OC cL qo f)[k]? = (NC cI cB cR ad w)[k]? := List.getElem?_append_left (by rw [NC_len]; exact h)
theorem NCO_o : (NC cI cB cR ad w ++ OC cL qo f)[36]? = some (qo, .inl (cL, 1, .inr (.inl f))) := by
  rw [List.getElem?_append_right (by rw [NC_len]; exact Nat.le_refl _), NC_len]
  rfl
theorem NCO_set {g : Nat → Int64} : (NC cI cB cR ad w ++ OC cL qo f).set 36 (qo, .inl (cL, 1, .inr (.inl g))) = NC cI cB cR ad w ++ OC cL qo g := by
  rw [List.set_append_right _ _ (by rw [NC_len]; exact Nat.le_refl _), NC_len]
  rfl
theorem NCO_C (h : va_P D clA (NC cI cB cR ad w ++ OC cL qo f) H) : va_P D clA (NC cI cB cR ad w) H := h.by id (fun k x hx => by
  have hl : k < 36 := by
    have := (List.getElem?_eq_some_iff.mp hx).1
    rw [NC_len] at this
    exact this
  show (NC cI cB cR ad w ++ OC cL qo f)[k]? = _
  rw [NCO_at hl]
  exact hx)
theorem NCO_O (h : va_P D clA (NC cI cB cR ad w ++ OC cL qo f) H) : va_P D clA (OC cL qo f) H := h.by (fun k => k + 36) (fun k x hx => by
  have hz : k < 1 := (List.getElem?_eq_some_iff.mp hx).1
  rw [show k = 0 by omega] at hx ⊢
  rw [show 0 + 36 = 36 from rfl, NCO_o]
  exact hx)
theorem NCO_D (hD0 : va_D (fun _ => True) (NC cI cB cR ad w)) (hqo : ∀ k, k < 36 → ad k ≠ qo) {sz : Nat} : va_D (AH ad qo sz) (NC cI cB cR ad w ++ OC cL qo f) := by
  refine va_D.app ((NC_AA (sz := sz) hD0).weaken (fun _ _ _ h => Or.inl h)) ⟨fun i j a b h1 h2 _ => ?_, fun k q hq => ?_⟩ (fun i j a b h1 h2 => ?_)
  · have a1 : i < 1 := (List.getElem?_eq_some_iff.mp h1).1
    have a2 : j < 1 := (List.getElem?_eq_some_iff.mp h2).1
    omega
  · have hz : k < 1 := (List.getElem?_eq_some_iff.mp hq).1
    rw [show k = 0 by omega] at hq
    cases hq
    exact Or.inr rfl
  · have hz : j < 1 := (List.getElem?_eq_some_iff.mp h2).1
    rw [show j = 0 by omega] at h2
    cases h2
    have hl : i < 36 := by
      have := (List.getElem?_eq_some_iff.mp h1).1
      rw [NC_len] at this
      exact this
    rw [NC_at hl] at h1
    cases h1
    exact hqo i hl
theorem hS_l (hexec : p.tables.exec = Jvm.exec) (hb : c.code = cc) (hKL : va_K D clA [(cL, .long)] s) (hP : va_P D clA (NC cI cB cR ad w) H) (hD0 : va_D (fun _ => True) (NC cI cB cR ad w)) (hO : va_P D clA (OC cL qo f) H) (hqo : ∀ k, k < 36 → ad k ≠ qo) (hS : va_S (AH ad qo s.heap.size) s.heap H locs) {v : Int64} (hdg : decode cc pc = .ok (.lastore, 1))
    (kk : ∀ (H1 : Heap) (locs1 : List Loc), va_P D clA (NC cI cB cR ad w) H1 → va_P D clA (OC cL qo (vp_updL f 0 v)) H1 → va_S (AH ad qo s.heap.size) s.heap H1 locs1 → W p l e R s m args below meth c H1 locs1 cells slots Q (F0 m (pc + 1) ls rest)) : W p l e R s m args below meth c H locs cells slots Q (F0 m pc ls (.long v :: .int (nI 0) :: .ref qo :: rest)) := by
  refine va_last hexec hb hKL (hP.app hO) (NCO_D hD0 hqo) hS 36 0 NCO_o rfl (vp_in_nI (n := 0) (N := 1) (by decide) (by decide)) hdg (fun H1 locs1 h1 h2 h3 => ?_)
  rw [nI_clamp (by decide), NCO_set] at h1
  exact kk H1 locs1 (NCO_C h1) (NCO_O h1) h3
end HC
set_option maxHeartbeats 4000000 in
set_option maxRecDepth 100000 in
/-- set -/
theorem c_La_set (l : Launch) {D : va_G} {cI cB cR cL : ClassId} {ad : Nat → Nat} {qo : Nat} (w : St) (f : Nat → Int64) (sz : Nat) (hl9 : l.stackTraces = false) (x1 : Int32) (v : Int64) (A : Ab) (hCI : CI w A) : vx_Met l y_La_set (q_La_set :: wA) { frames := 13, cells := 1, slots := 6, locals := 300 } (va_Pc [.ref (ad 0), .int (x1), .long (v), .ref (qo)] (PH D cI cB cR cL ad qo w f sz)) (va_Qi (fun r u => ph (sp_set x1 v A) r u) (BH D cI cB cR cL ad qo) (AH ad qo sz)) FX 1 6 (AH ad qo sz) := by
  refine vx_ofWH (cc := b_La_set) (maxL := 6) (ret := (some (.int))) (hh := [(0, 11, 14, 13)]) (by decide) rfl ?_
  intro p e s m args below meth c s₁ B hml hv
  obtain ⟨rfl, hsz, ⟨hP, hD0⟩, ⟨hO, hqo⟩, ⟨hK, hKL⟩, hKB, hTH, hNc⟩ := hv
  have hx := B.exec
  have hb := B.bytes
  have hr := B.returns
  have hts := atoms_spec (ws := q_La_set :: wA) B.pre
  have hown : s.vm.findClass R_La = some m.cls := findClass_of_methodNamed B.named
  have hlocks := B.notSynchronized
  subst hsz
  have hl := lv_entry ([.ref (ad 0), .int (x1), .long (v), .ref (qo)]) (n := 6) (Nat.le_of_ble_eq_true rfl)
  rw [lg_entry_eq]
  generalize (lg_sl ([.ref (ad 0), .int (x1), .long (v), .ref (qo)]) ++ List.replicate (6 - (lg_sl ([.ref (ad 0), .int (x1), .long (v), .ref (qo)])).length) Slot.unset).toArray = ls at hl ⊢
  have hl : lv_has ls 6 [(0, .ref (ad 0)), (1, .int (x1)), (2, .long (v)), (4, .ref (qo))] := hl
  have hKW : KW D cI cB cR ad s := ⟨hK, hKB, hTH.1.narrow (fun q h => Or.inl h), hTH.2.narrow (fun q h => Or.inl h)⟩
  have htb := vx_table (x := y_La_set) B (hts _ List.mem_cons_self)
  refine lv_aload hx hb d_La_set_0 (lv_at hl 3 rfl) ?_
  refine lv_iconst (v := nI (0)) hx hb d_La_set_2 (by decide) ?_
  refine lv_aload_n hx hb d_La_set_3 rfl (lv_at hl 0 rfl) ?_
  refine lv_iload_n hx hb d_La_set_4 rfl (lv_at hl 1 rfl) ?_
  refine lv_lload_n hx hb d_La_set_5 rfl (lv_at hl 2 rfl) ?_
  refine hC_i (As := [.int (x1), .long (v)]) (rest := [.int (nI (0)), .ref (qo)]) (n := 2) ⟨hx, hb, hml, hown, hts⟩ (c_Lw_set l w _ hl9 x1 v A hCI) (cwV0 2 hts lm_La_7 im_Lw_set se_Lw_set in_Lw kq_Lw_set rfl rfl rfl (by decide +kernel) ⟨Nat.le_of_ble_eq_true rfl, Nat.le_of_ble_eq_true rfl⟩) (recvL hKW.1 hP) hKW hP hD0 hO hqo rfl hl.1 rfl (Nat.le_of_ble_eq_true rfl) d_La_set_6 ⟨Nat.le_of_ble_eq_true rfl, Nat.le_of_ble_eq_true rfl⟩ (fun E ce q9 u H locs hp hP hO hS hcell hcv hcl => ?_) (fun r u H locs hp hP hO hS => ?_)
  · obtain ⟨A9, hCI9, hor⟩ := hp
    rcases hor with ⟨hE, hR⟩ | ⟨hE, hR⟩
    · subst hE
      refine vx_catch (own := R_La) (name := E_IA) hown [] ⟨0, 11, 14, 13⟩ [] htb (fun z hz => absurd hz List.not_mem_nil) (by decide) (by decide) (hA_ hts lc_La_13) (cs_IA hKB) hcell hcv hcl ?_
      refine lv_astore (lv' := [(5, .ref (q9)), (0, .ref (ad 0)), (1, .int (x1)), (2, .long (v)), (4, .ref (qo))]) hx hb d_La_set_14 hl (by decide) rfl (fun ls hl => ?_)
      refine lv_iconst (v := nI (1)) hx hb d_La_set_16 (by decide) ?_
      exact vx_ret (W.widen (k := 1) (n := 6) (Nat.le_of_ble_eq_true rfl) (Nat.le_of_ble_eq_true rfl) (W.iret (v := nI (1)) hx hb hr (fun t ht hW => ⟨⟨_, (u, f), rfl, ⟨by rw [hR]; exact hCI9, by rw [hR], fun h => absurd (show (sp_set x1 v A).1 = 0 from h) (by rw [hR]; show ¬ (1 : Nat) = 0; decide)⟩, by rw [ht]; exact hP, by rw [ht]; exact hO⟩, hS.F ht⟩) hS.2.2 d_La_set_17))
    · subst hE
      exfalso
      unfold sp_set at hR
      split at hR <;> simp at hR
  · obtain ⟨A9, hCI9, hR⟩ := hp
    refine lv_i2l (v := r.toInt64) hx hb d_La_set_9 rfl ?_
    refine hS_l hx hb hKL hP (NC_D hD0) hO hqo hS d_La_set_10 (fun H locs hP hO hS => ?_)
    refine lv_goto (tgt := 18) hx hb d_La_set_11 (by decide) ?_
    refine lv_iconst (v := nI (0)) hx hb d_La_set_18 (by decide) ?_
    exact vx_ret (W.widen (k := 1) (n := 6) (Nat.le_of_ble_eq_true rfl) (Nat.le_of_ble_eq_true rfl) (W.iret (v := nI (0)) hx hb hr (fun t ht hW => ⟨⟨_, (u, vp_updL f 0 (r.toInt64)), rfl, ⟨by rw [hR]; exact hCI9, by rw [hR], fun _ => by rw [hR]; rfl⟩, by rw [ht]; exact hP, by rw [ht]; exact hO⟩, hS.F ht⟩) hS.2.2 d_La_set_19))
set_option maxHeartbeats 4000000 in
set_option maxRecDepth 100000 in
/-- copy -/
theorem c_La_copy (l : Launch) {D : va_G} {cI cB cR cL : ClassId} {ad : Nat → Nat} {qo : Nat} (w : St) (f : Nat → Int64) (sz : Nat) (hl9 : l.stackTraces = false) (x1 x2 : Int32) (A : Ab) (hCI : CI w A) : vx_Met l y_La_copy (q_La_copy :: wA) { frames := 13, cells := 2, slots := 12, locals := 300 } (va_Pc [.ref (ad 0), .int (x1), .int (x2), .ref (qo)] (PH D cI cB cR cL ad qo w f sz)) (va_Qi (fun r u => ph (sp_copy x1 x2 A) r u) (BH D cI cB cR cL ad qo) (AH ad qo sz)) FX 2 12 (AH ad qo sz) := by
  refine vx_ofWH (cc := b_La_copy) (maxL := 5) (ret := (some (.int))) (hh := [(0, 10, 13, 13)]) (by decide) rfl ?_
  intro p e s m args below meth c s₁ B hml hv
  obtain ⟨rfl, hsz, ⟨hP, hD0⟩, ⟨hO, hqo⟩, ⟨hK, hKL⟩, hKB, hTH, hNc⟩ := hv
  have hx := B.exec
  have hb := B.bytes
  have hr := B.returns
  have hts := atoms_spec (ws := q_La_copy :: wA) B.pre
  have hown : s.vm.findClass R_La = some m.cls := findClass_of_methodNamed B.named
  have hlocks := B.notSynchronized
  subst hsz
  have hl := lv_entry ([.ref (ad 0), .int (x1), .int (x2), .ref (qo)]) (n := 5) (Nat.le_of_ble_eq_true rfl)
  rw [lg_entry_eq]
  generalize (lg_sl ([.ref (ad 0), .int (x1), .int (x2), .ref (qo)]) ++ List.replicate (5 - (lg_sl ([.ref (ad 0), .int (x1), .int (x2), .ref (qo)])).length) Slot.unset).toArray = ls at hl ⊢
  have hl : lv_has ls 5 [(0, .ref (ad 0)), (1, .int (x1)), (2, .int (x2)), (3, .ref (qo))] := hl
  have hKW : KW D cI cB cR ad s := ⟨hK, hKB, hTH.1.narrow (fun q h => Or.inl h), hTH.2.narrow (fun q h => Or.inl h)⟩
  have htb := vx_table (x := y_La_copy) B (hts _ List.mem_cons_self)
  refine lv_aload_n hx hb d_La_copy_0 rfl (lv_at hl 3 rfl) ?_
  refine lv_iconst (v := nI (0)) hx hb d_La_copy_1 (by decide) ?_
  refine lv_aload_n hx hb d_La_copy_2 rfl (lv_at hl 0 rfl) ?_
  refine lv_iload_n hx hb d_La_copy_3 rfl (lv_at hl 1 rfl) ?_
  refine lv_iload_n hx hb d_La_copy_4 rfl (lv_at hl 2 rfl) ?_
  refine hC_i (As := [.int (x1), .int (x2)]) (rest := [.int (nI (0)), .ref (qo)]) (n := 2) ⟨hx, hb, hml, hown, hts⟩ (c_Lw_copy l w _ hl9 x1 x2 A hCI) (cwV0 2 hts lm_La_15 im_Lw_copy se_Lw_copy in_Lw kq_Lw_copy rfl rfl rfl (by decide +kernel) ⟨Nat.le_of_ble_eq_true rfl, Nat.le_of_ble_eq_true rfl⟩) (recvL hKW.1 hP) hKW hP hD0 hO hqo rfl hl.1 rfl (Nat.le_of_ble_eq_true rfl) d_La_copy_5 ⟨Nat.le_of_ble_eq_true rfl, Nat.le_of_ble_eq_true rfl⟩ (fun E ce q9 u H locs hp hP hO hS hcell hcv hcl => ?_) (fun r u H locs hp hP hO hS => ?_)
  · obtain ⟨A9, hCI9, hor⟩ := hp
    rcases hor with ⟨hE, hR⟩ | ⟨hE, hR⟩
    · subst hE
      refine vx_catch (own := R_La) (name := E_IA) hown [] ⟨0, 10, 13, 13⟩ [] htb (fun z hz => absurd hz List.not_mem_nil) (by decide) (by decide) (hA_ hts lc_La_13) (cs_IA hKB) hcell hcv hcl ?_
      refine lv_astore (lv' := [(4, .ref (q9)), (0, .ref (ad 0)), (1, .int (x1)), (2, .int (x2)), (3, .ref (qo))]) hx hb d_La_copy_13 hl (by decide) rfl (fun ls hl => ?_)
      refine lv_iconst (v := nI (1)) hx hb d_La_copy_15 (by decide) ?_
      exact vx_ret (W.widen (k := 2) (n := 12) (Nat.le_of_ble_eq_true rfl) (Nat.le_of_ble_eq_true rfl) (W.iret (v := nI (1)) hx hb hr (fun t ht hW => ⟨⟨_, (u, f), rfl, ⟨by rw [hR]; exact hCI9, by rw [hR], fun h => absurd (show (sp_copy x1 x2 A).1 = 0 from h) (by rw [hR]; show ¬ (1 : Nat) = 0; decide)⟩, by rw [ht]; exact hP, by rw [ht]; exact hO⟩, hS.F ht⟩) hS.2.2 d_La_copy_16))
    · subst hE
      exfalso
      unfold sp_copy at hR
      split at hR <;> simp at hR
  · obtain ⟨A9, hCI9, hR⟩ := hp
    refine lv_i2l (v := r.toInt64) hx hb d_La_copy_8 rfl ?_
    refine hS_l hx hb hKL hP (NC_D hD0) hO hqo hS d_La_copy_9 (fun H locs hP hO hS => ?_)
    refine lv_goto (tgt := 17) hx hb d_La_copy_10 (by decide) ?_
    refine lv_iconst (v := nI (0)) hx hb d_La_copy_17 (by decide) ?_
    exact vx_ret (W.widen (k := 2) (n := 12) (Nat.le_of_ble_eq_true rfl) (Nat.le_of_ble_eq_true rfl) (W.iret (v := nI (0)) hx hb hr (fun t ht hW => ⟨⟨_, (u, vp_updL f 0 (r.toInt64)), rfl, ⟨by rw [hR]; exact hCI9, by rw [hR], fun _ => by rw [hR]; rfl⟩, by rw [ht]; exact hP, by rw [ht]; exact hO⟩, hS.F ht⟩) hS.2.2 d_La_copy_18))
set_option maxHeartbeats 4000000 in
set_option maxRecDepth 100000 in
/-- shift -/
theorem c_La_shift (l : Launch) {D : va_G} {cI cB cR cL : ClassId} {ad : Nat → Nat} {qo : Nat} (w : St) (f : Nat → Int64) (sz : Nat) (hl9 : l.stackTraces = false) (x1 x2 n : Int32) (A : Ab) (hCI : CI w A) : vx_Met l y_La_shift (q_La_shift :: wA) { frames := 15, cells := 4, slots := 24, locals := 340 } (va_Pc [.ref (ad 0), .int (x1), .int (x2), .int (n), .ref (qo)] (PH D cI cB cR cL ad qo w f sz)) (va_Qi (fun r u => ph (sp_shift x1 x2 n A) r u) (BH D cI cB cR cL ad qo) (AH ad qo sz)) FX 4 24 (AH ad qo sz) := by
  refine vx_ofWH (cc := b_La_shift) (maxL := 6) (ret := (some (.int))) (hh := [(0, 12, 15, 13), (0, 12, 19, 23)]) (by decide) rfl ?_
  intro p e s m args below meth c s₁ B hml hv
  obtain ⟨rfl, hsz, ⟨hP, hD0⟩, ⟨hO, hqo⟩, ⟨hK, hKL⟩, hKB, hTH, hNc⟩ := hv
  have hx := B.exec
  have hb := B.bytes
  have hr := B.returns
  have hts := atoms_spec (ws := q_La_shift :: wA) B.pre
  have hown : s.vm.findClass R_La = some m.cls := findClass_of_methodNamed B.named
  have hlocks := B.notSynchronized
  subst hsz
  have hl := lv_entry ([.ref (ad 0), .int (x1), .int (x2), .int (n), .ref (qo)]) (n := 6) (Nat.le_of_ble_eq_true rfl)
  rw [lg_entry_eq]
  generalize (lg_sl ([.ref (ad 0), .int (x1), .int (x2), .int (n), .ref (qo)]) ++ List.replicate (6 - (lg_sl ([.ref (ad 0), .int (x1), .int (x2), .int (n), .ref (qo)])).length) Slot.unset).toArray = ls at hl ⊢
  have hl : lv_has ls 6 [(0, .ref (ad 0)), (1, .int (x1)), (2, .int (x2)), (3, .int (n)), (4, .ref (qo))] := hl
  have hKW : KW D cI cB cR ad s := ⟨hK, hKB, hTH.1.narrow (fun q h => Or.inl h), hTH.2.narrow (fun q h => Or.inl h)⟩
  have htb := vx_table (x := y_La_shift) B (hts _ List.mem_cons_self)
  refine lv_aload hx hb d_La_shift_0 (lv_at hl 4 rfl) ?_
  refine lv_iconst (v := nI (0)) hx hb d_La_shift_2 (by decide) ?_
  refine lv_aload_n hx hb d_La_shift_3 rfl (lv_at hl 0 rfl) ?_
  refine lv_iload_n hx hb d_La_shift_4 rfl (lv_at hl 1 rfl) ?_
  refine lv_iload_n hx hb d_La_shift_5 rfl (lv_at hl 2 rfl) ?_
  refine lv_iload_n hx hb d_La_shift_6 rfl (lv_at hl 3 rfl) ?_
  refine hC_i (As := [.int (x1), .int (x2), .int (n)]) (rest := [.int (nI (0)), .ref (qo)]) (n := 3) ⟨hx, hb, hml, hown, hts⟩ (c_Lw_shift l w _ hl9 x1 x2 n A hCI) (cwV0 3 hts lm_La_19 im_Lw_shift se_Lw_shift in_Lw kq_Lw_shift rfl rfl rfl (by decide +kernel) ⟨Nat.le_of_ble_eq_true rfl, Nat.le_of_ble_eq_true rfl⟩) (recvL hKW.1 hP) hKW hP hD0 hO hqo rfl hl.1 rfl (Nat.le_of_ble_eq_true rfl) d_La_shift_7 ⟨Nat.le_of_ble_eq_true rfl, Nat.le_of_ble_eq_true rfl⟩ (fun E ce q9 u H locs hp hP hO hS hcell hcv hcl => ?_) (fun r u H locs hp hP hO hS => ?_)
  · obtain ⟨A9, hCI9, hor⟩ := hp
    rcases hor with ⟨hE, hR⟩ | ⟨hE, hR⟩
    · subst hE
      refine vx_catch (own := R_La) (name := E_IA) hown [] ⟨0, 12, 15, 13⟩ [⟨0, 12, 19, 23⟩] htb (fun z hz => absurd hz List.not_mem_nil) (by decide) (by decide) (hA_ hts lc_La_13) (cs_IA hKB) hcell hcv hcl ?_
      refine lv_astore (lv' := [(5, .ref (q9)), (0, .ref (ad 0)), (1, .int (x1)), (2, .int (x2)), (3, .int (n)), (4, .ref (qo))]) hx hb d_La_shift_15 hl (by decide) rfl (fun ls hl => ?_)
      refine lv_iconst (v := nI (1)) hx hb d_La_shift_17 (by decide) ?_
      exact vx_ret (W.widen (k := 4) (n := 24) (Nat.le_of_ble_eq_true rfl) (Nat.le_of_ble_eq_true rfl) (W.iret (v := nI (1)) hx hb hr (fun t ht hW => ⟨⟨_, (u, f), rfl, ⟨by rw [hR]; exact hCI9, by rw [hR], fun h => absurd (show (sp_shift x1 x2 n A).1 = 0 from h) (by rw [hR]; show ¬ (1 : Nat) = 0; decide)⟩, by rw [ht]; exact hP, by rw [ht]; exact hO⟩, hS.F ht⟩) hS.2.2 d_La_shift_18))
    · subst hE
      refine vx_catch (own := R_La) (name := E_IS) hown [⟨0, 12, 15, 13⟩] ⟨0, 12, 19, 23⟩ [] htb (fun z hz => by rw [List.mem_singleton.mp hz]; exact Or.inr ⟨by decide, E_IA, hA_ hts lc_La_13, hNc.1⟩) (by decide) (by decide) (hA_ hts lc_La_23) (cs_IS hKB) hcell hcv hcl ?_
      refine lv_astore (lv' := [(5, .ref (q9)), (0, .ref (ad 0)), (1, .int (x1)), (2, .int (x2)), (3, .int (n)), (4, .ref (qo))]) hx hb d_La_shift_19 hl (by decide) rfl (fun ls hl => ?_)
      refine lv_iconst (v := nI (2)) hx hb d_La_shift_21 (by decide) ?_
      exact vx_ret (W.widen (k := 4) (n := 24) (Nat.le_of_ble_eq_true rfl) (Nat.le_of_ble_eq_true rfl) (W.iret (v := nI (2)) hx hb hr (fun t ht hW => ⟨⟨_, (u, f), rfl, ⟨by rw [hR]; exact hCI9, by rw [hR], fun h => absurd (show (sp_shift x1 x2 n A).1 = 0 from h) (by rw [hR]; show ¬ (2 : Nat) = 0; decide)⟩, by rw [ht]; exact hP, by rw [ht]; exact hO⟩, hS.F ht⟩) hS.2.2 d_La_shift_22))
  · obtain ⟨A9, hCI9, hR⟩ := hp
    refine lv_i2l (v := r.toInt64) hx hb d_La_shift_10 rfl ?_
    refine hS_l hx hb hKL hP (NC_D hD0) hO hqo hS d_La_shift_11 (fun H locs hP hO hS => ?_)
    refine lv_goto (tgt := 23) hx hb d_La_shift_12 (by decide) ?_
    refine lv_iconst (v := nI (0)) hx hb d_La_shift_23 (by decide) ?_
    exact vx_ret (W.widen (k := 4) (n := 24) (Nat.le_of_ble_eq_true rfl) (Nat.le_of_ble_eq_true rfl) (W.iret (v := nI (0)) hx hb hr (fun t ht hW => ⟨⟨_, (u, vp_updL f 0 (r.toInt64)), rfl, ⟨by rw [hR]; exact hCI9, by rw [hR], fun _ => by rw [hR]; rfl⟩, by rw [ht]; exact hP, by rw [ht]; exact hO⟩, hS.F ht⟩) hS.2.2 d_La_shift_24))
set_option maxHeartbeats 4000000 in
set_option maxRecDepth 100000 in
/-- add -/
theorem c_La_add (l : Launch) {D : va_G} {cI cB cR cL : ClassId} {ad : Nat → Nat} {qo : Nat} (w : St) (f : Nat → Int64) (sz : Nat) (hl9 : l.stackTraces = false) (x1 x2 x3 : Int32) (A : Ab) (hCI : CI w A) : vx_Met l y_La_add (q_La_add :: wA) { frames := 15, cells := 4, slots := 24, locals := 340 } (va_Pc [.ref (ad 0), .int (x1), .int (x2), .int (x3), .ref (qo)] (PH D cI cB cR cL ad qo w f sz)) (va_Qi (fun r u => ph (sp_add x1 x2 x3 A) r u) (BH D cI cB cR cL ad qo) (AH ad qo sz)) FX 4 24 (AH ad qo sz) := by
  refine vx_ofWH (cc := b_La_add) (maxL := 6) (ret := (some (.int))) (hh := [(0, 12, 15, 13), (0, 12, 19, 23)]) (by decide) rfl ?_
  intro p e s m args below meth c s₁ B hml hv
  obtain ⟨rfl, hsz, ⟨hP, hD0⟩, ⟨hO, hqo⟩, ⟨hK, hKL⟩, hKB, hTH, hNc⟩ := hv
  have hx := B.exec
  have hb := B.bytes
  have hr := B.returns
  have hts := atoms_spec (ws := q_La_add :: wA) B.pre
  have hown : s.vm.findClass R_La = some m.cls := findClass_of_methodNamed B.named
  have hlocks := B.notSynchronized
  subst hsz
  have hl := lv_entry ([.ref (ad 0), .int (x1), .int (x2), .int (x3), .ref (qo)]) (n := 6) (Nat.le_of_ble_eq_true rfl)
  rw [lg_entry_eq]
  generalize (lg_sl ([.ref (ad 0), .int (x1), .int (x2), .int (x3), .ref (qo)]) ++ List.replicate (6 - (lg_sl ([.ref (ad 0), .int (x1), .int (x2), .int (x3), .ref (qo)])).length) Slot.unset).toArray = ls at hl ⊢
  have hl : lv_has ls 6 [(0, .ref (ad 0)), (1, .int (x1)), (2, .int (x2)), (3, .int (x3)), (4, .ref (qo))] := hl
  have hKW : KW D cI cB cR ad s := ⟨hK, hKB, hTH.1.narrow (fun q h => Or.inl h), hTH.2.narrow (fun q h => Or.inl h)⟩
  have htb := vx_table (x := y_La_add) B (hts _ List.mem_cons_self)
  refine lv_aload hx hb d_La_add_0 (lv_at hl 4 rfl) ?_
  refine lv_iconst (v := nI (0)) hx hb d_La_add_2 (by decide) ?_
  refine lv_aload_n hx hb d_La_add_3 rfl (lv_at hl 0 rfl) ?_
  refine lv_iload_n hx hb d_La_add_4 rfl (lv_at hl 1 rfl) ?_
  refine lv_iload_n hx hb d_La_add_5 rfl (lv_at hl 2 rfl) ?_
  refine lv_iload_n hx hb d_La_add_6 rfl (lv_at hl 3 rfl) ?_
  refine hC_i (As := [.int (x1), .int (x2), .int (x3)]) (rest := [.int (nI (0)), .ref (qo)]) (n := 3) ⟨hx, hb, hml, hown, hts⟩ (c_Lw_add l w _ hl9 x1 x2 x3 A hCI) (cwV0 3 hts lm_La_25 im_Lw_add se_Lw_add in_Lw kq_Lw_add rfl rfl rfl (by decide +kernel) ⟨Nat.le_of_ble_eq_true rfl, Nat.le_of_ble_eq_true rfl⟩) (recvL hKW.1 hP) hKW hP hD0 hO hqo rfl hl.1 rfl (Nat.le_of_ble_eq_true rfl) d_La_add_7 ⟨Nat.le_of_ble_eq_true rfl, Nat.le_of_ble_eq_true rfl⟩ (fun E ce q9 u H locs hp hP hO hS hcell hcv hcl => ?_) (fun r u H locs hp hP hO hS => ?_)
  · obtain ⟨A9, hCI9, hor⟩ := hp
    rcases hor with ⟨hE, hR⟩ | ⟨hE, hR⟩
    · subst hE
      refine vx_catch (own := R_La) (name := E_IA) hown [] ⟨0, 12, 15, 13⟩ [⟨0, 12, 19, 23⟩] htb (fun z hz => absurd hz List.not_mem_nil) (by decide) (by decide) (hA_ hts lc_La_13) (cs_IA hKB) hcell hcv hcl ?_
      refine lv_astore (lv' := [(5, .ref (q9)), (0, .ref (ad 0)), (1, .int (x1)), (2, .int (x2)), (3, .int (x3)), (4, .ref (qo))]) hx hb d_La_add_15 hl (by decide) rfl (fun ls hl => ?_)
      refine lv_iconst (v := nI (1)) hx hb d_La_add_17 (by decide) ?_
      exact vx_ret (W.widen (k := 4) (n := 24) (Nat.le_of_ble_eq_true rfl) (Nat.le_of_ble_eq_true rfl) (W.iret (v := nI (1)) hx hb hr (fun t ht hW => ⟨⟨_, (u, f), rfl, ⟨by rw [hR]; exact hCI9, by rw [hR], fun h => absurd (show (sp_add x1 x2 x3 A).1 = 0 from h) (by rw [hR]; show ¬ (1 : Nat) = 0; decide)⟩, by rw [ht]; exact hP, by rw [ht]; exact hO⟩, hS.F ht⟩) hS.2.2 d_La_add_18))
    · subst hE
      refine vx_catch (own := R_La) (name := E_IS) hown [⟨0, 12, 15, 13⟩] ⟨0, 12, 19, 23⟩ [] htb (fun z hz => by rw [List.mem_singleton.mp hz]; exact Or.inr ⟨by decide, E_IA, hA_ hts lc_La_13, hNc.1⟩) (by decide) (by decide) (hA_ hts lc_La_23) (cs_IS hKB) hcell hcv hcl ?_
      refine lv_astore (lv' := [(5, .ref (q9)), (0, .ref (ad 0)), (1, .int (x1)), (2, .int (x2)), (3, .int (x3)), (4, .ref (qo))]) hx hb d_La_add_19 hl (by decide) rfl (fun ls hl => ?_)
      refine lv_iconst (v := nI (2)) hx hb d_La_add_21 (by decide) ?_
      exact vx_ret (W.widen (k := 4) (n := 24) (Nat.le_of_ble_eq_true rfl) (Nat.le_of_ble_eq_true rfl) (W.iret (v := nI (2)) hx hb hr (fun t ht hW => ⟨⟨_, (u, f), rfl, ⟨by rw [hR]; exact hCI9, by rw [hR], fun h => absurd (show (sp_add x1 x2 x3 A).1 = 0 from h) (by rw [hR]; show ¬ (2 : Nat) = 0; decide)⟩, by rw [ht]; exact hP, by rw [ht]; exact hO⟩, hS.F ht⟩) hS.2.2 d_La_add_22))
  · obtain ⟨A9, hCI9, hR⟩ := hp
    refine lv_i2l (v := r.toInt64) hx hb d_La_add_10 rfl ?_
    refine hS_l hx hb hKL hP (NC_D hD0) hO hqo hS d_La_add_11 (fun H locs hP hO hS => ?_)
    refine lv_goto (tgt := 23) hx hb d_La_add_12 (by decide) ?_
    refine lv_iconst (v := nI (0)) hx hb d_La_add_23 (by decide) ?_
    exact vx_ret (W.widen (k := 4) (n := 24) (Nat.le_of_ble_eq_true rfl) (Nat.le_of_ble_eq_true rfl) (W.iret (v := nI (0)) hx hb hr (fun t ht hW => ⟨⟨_, (u, vp_updL f 0 (r.toInt64)), rfl, ⟨by rw [hR]; exact hCI9, by rw [hR], fun _ => by rw [hR]; rfl⟩, by rw [ht]; exact hP, by rw [ht]; exact hO⟩, hS.F ht⟩) hS.2.2 d_La_add_24))
set_option maxHeartbeats 4000000 in
set_option maxRecDepth 100000 in
/-- subtract -/
theorem c_La_subtract (l : Launch) {D : va_G} {cI cB cR cL : ClassId} {ad : Nat → Nat} {qo : Nat} (w : St) (f : Nat → Int64) (sz : Nat) (hl9 : l.stackTraces = false) (x1 x2 x3 : Int32) (A : Ab) (hCI : CI w A) : vx_Met l y_La_subtract (q_La_subtract :: wA) { frames := 15, cells := 4, slots := 24, locals := 340 } (va_Pc [.ref (ad 0), .int (x1), .int (x2), .int (x3), .ref (qo)] (PH D cI cB cR cL ad qo w f sz)) (va_Qi (fun r u => ph (sp_subtract x1 x2 x3 A) r u) (BH D cI cB cR cL ad qo) (AH ad qo sz)) FX 4 24 (AH ad qo sz) := by
  refine vx_ofWH (cc := b_La_subtract) (maxL := 6) (ret := (some (.int))) (hh := [(0, 12, 15, 13), (0, 12, 19, 31)]) (by decide) rfl ?_
  intro p e s m args below meth c s₁ B hml hv
  obtain ⟨rfl, hsz, ⟨hP, hD0⟩, ⟨hO, hqo⟩, ⟨hK, hKL⟩, hKB, hTH, hNc⟩ := hv
  have hx := B.exec
  have hb := B.bytes
  have hr := B.returns
  have hts := atoms_spec (ws := q_La_subtract :: wA) B.pre
  have hown : s.vm.findClass R_La = some m.cls := findClass_of_methodNamed B.named
  have hlocks := B.notSynchronized
  subst hsz
  have hl := lv_entry ([.ref (ad 0), .int (x1), .int (x2), .int (x3), .ref (qo)]) (n := 6) (Nat.le_of_ble_eq_true rfl)
  rw [lg_entry_eq]
  generalize (lg_sl ([.ref (ad 0), .int (x1), .int (x2), .int (x3), .ref (qo)]) ++ List.replicate (6 - (lg_sl ([.ref (ad 0), .int (x1), .int (x2), .int (x3), .ref (qo)])).length) Slot.unset).toArray = ls at hl ⊢
  have hl : lv_has ls 6 [(0, .ref (ad 0)), (1, .int (x1)), (2, .int (x2)), (3, .int (x3)), (4, .ref (qo))] := hl
  have hKW : KW D cI cB cR ad s := ⟨hK, hKB, hTH.1.narrow (fun q h => Or.inl h), hTH.2.narrow (fun q h => Or.inl h)⟩
  have htb := vx_table (x := y_La_subtract) B (hts _ List.mem_cons_self)
  refine lv_aload hx hb d_La_subtract_0 (lv_at hl 4 rfl) ?_
  refine lv_iconst (v := nI (0)) hx hb d_La_subtract_2 (by decide) ?_
  refine lv_aload_n hx hb d_La_subtract_3 rfl (lv_at hl 0 rfl) ?_
  refine lv_iload_n hx hb d_La_subtract_4 rfl (lv_at hl 1 rfl) ?_
  refine lv_iload_n hx hb d_La_subtract_5 rfl (lv_at hl 2 rfl) ?_
  refine lv_iload_n hx hb d_La_subtract_6 rfl (lv_at hl 3 rfl) ?_
  refine hC_i (As := [.int (x1), .int (x2), .int (x3)]) (rest := [.int (nI (0)), .ref (qo)]) (n := 3) ⟨hx, hb, hml, hown, hts⟩ (c_Lw_subtract l w _ hl9 x1 x2 x3 A hCI) (cwV0 3 hts lm_La_28 im_Lw_subtract se_Lw_subtract in_Lw kq_Lw_subtract rfl rfl rfl (by decide +kernel) ⟨Nat.le_of_ble_eq_true rfl, Nat.le_of_ble_eq_true rfl⟩) (recvL hKW.1 hP) hKW hP hD0 hO hqo rfl hl.1 rfl (Nat.le_of_ble_eq_true rfl) d_La_subtract_7 ⟨Nat.le_of_ble_eq_true rfl, Nat.le_of_ble_eq_true rfl⟩ (fun E ce q9 u H locs hp hP hO hS hcell hcv hcl => ?_) (fun r u H locs hp hP hO hS => ?_)
  · obtain ⟨A9, hCI9, hor⟩ := hp
    rcases hor with ⟨hE, hR⟩ | ⟨hE, hR⟩
    · subst hE
      refine vx_catch (own := R_La) (name := E_IA) hown [] ⟨0, 12, 15, 13⟩ [⟨0, 12, 19, 31⟩] htb (fun z hz => absurd hz List.not_mem_nil) (by decide) (by decide) (hA_ hts lc_La_13) (cs_IA hKB) hcell hcv hcl ?_
      refine lv_astore (lv' := [(5, .ref (q9)), (0, .ref (ad 0)), (1, .int (x1)), (2, .int (x2)), (3, .int (x3)), (4, .ref (qo))]) hx hb d_La_subtract_15 hl (by decide) rfl (fun ls hl => ?_)
      refine lv_iconst (v := nI (1)) hx hb d_La_subtract_17 (by decide) ?_
      exact vx_ret (W.widen (k := 4) (n := 24) (Nat.le_of_ble_eq_true rfl) (Nat.le_of_ble_eq_true rfl) (W.iret (v := nI (1)) hx hb hr (fun t ht hW => ⟨⟨_, (u, f), rfl, ⟨by rw [hR]; exact hCI9, by rw [hR], fun h => absurd (show (sp_subtract x1 x2 x3 A).1 = 0 from h) (by rw [hR]; show ¬ (1 : Nat) = 0; decide)⟩, by rw [ht]; exact hP, by rw [ht]; exact hO⟩, hS.F ht⟩) hS.2.2 d_La_subtract_18))
    · subst hE
      refine vx_catch (own := R_La) (name := E_AR) hown [⟨0, 12, 15, 13⟩] ⟨0, 12, 19, 31⟩ [] htb (fun z hz => by rw [List.mem_singleton.mp hz]; exact Or.inr ⟨by decide, E_IA, hA_ hts lc_La_13, hNc.2.1⟩) (by decide) (by decide) (hA_ hts lc_La_31) (cs_AR hKB) hcell hcv hcl ?_
      refine lv_astore (lv' := [(5, .ref (q9)), (0, .ref (ad 0)), (1, .int (x1)), (2, .int (x2)), (3, .int (x3)), (4, .ref (qo))]) hx hb d_La_subtract_19 hl (by decide) rfl (fun ls hl => ?_)
      refine lv_iconst (v := nI (2)) hx hb d_La_subtract_21 (by decide) ?_
      exact vx_ret (W.widen (k := 4) (n := 24) (Nat.le_of_ble_eq_true rfl) (Nat.le_of_ble_eq_true rfl) (W.iret (v := nI (2)) hx hb hr (fun t ht hW => ⟨⟨_, (u, f), rfl, ⟨by rw [hR]; exact hCI9, by rw [hR], fun h => absurd (show (sp_subtract x1 x2 x3 A).1 = 0 from h) (by rw [hR]; show ¬ (2 : Nat) = 0; decide)⟩, by rw [ht]; exact hP, by rw [ht]; exact hO⟩, hS.F ht⟩) hS.2.2 d_La_subtract_22))
  · obtain ⟨A9, hCI9, hR⟩ := hp
    refine lv_i2l (v := r.toInt64) hx hb d_La_subtract_10 rfl ?_
    refine hS_l hx hb hKL hP (NC_D hD0) hO hqo hS d_La_subtract_11 (fun H locs hP hO hS => ?_)
    refine lv_goto (tgt := 23) hx hb d_La_subtract_12 (by decide) ?_
    refine lv_iconst (v := nI (0)) hx hb d_La_subtract_23 (by decide) ?_
    exact vx_ret (W.widen (k := 4) (n := 24) (Nat.le_of_ble_eq_true rfl) (Nat.le_of_ble_eq_true rfl) (W.iret (v := nI (0)) hx hb hr (fun t ht hW => ⟨⟨_, (u, vp_updL f 0 (r.toInt64)), rfl, ⟨by rw [hR]; exact hCI9, by rw [hR], fun _ => by rw [hR]; rfl⟩, by rw [ht]; exact hP, by rw [ht]; exact hO⟩, hS.F ht⟩) hS.2.2 d_La_subtract_24))
set_option maxHeartbeats 4000000 in
set_option maxRecDepth 100000 in
/-- times -/
theorem c_La_times (l : Launch) {D : va_G} {cI cB cR cL : ClassId} {ad : Nat → Nat} {qo : Nat} (w : St) (f : Nat → Int64) (sz : Nat) (hl9 : l.stackTraces = false) (x1 x2 x3 : Int32) (A : Ab) (hCI : CI w A) : vx_Met l y_La_times (q_La_times :: wA) { frames := 49, cells := 4, slots := 24, locals := 1990 } (va_Pc [.ref (ad 0), .int (x1), .int (x2), .int (x3), .ref (qo)] (PH D cI cB cR cL ad qo w f sz)) (va_Qi (fun r u => ph (sp_times x1 x2 x3 A) r u) (BH D cI cB cR cL ad qo) (AH ad qo sz)) FX 4 24 (AH ad qo sz) := by
  refine vx_ofWH (cc := b_La_times) (maxL := 6) (ret := (some (.int))) (hh := [(0, 12, 15, 13), (0, 12, 19, 23)]) (by decide) rfl ?_
  intro p e s m args below meth c s₁ B hml hv
  obtain ⟨rfl, hsz, ⟨hP, hD0⟩, ⟨hO, hqo⟩, ⟨hK, hKL⟩, hKB, hTH, hNc⟩ := hv
  have hx := B.exec
  have hb := B.bytes
  have hr := B.returns
  have hts := atoms_spec (ws := q_La_times :: wA) B.pre
  have hown : s.vm.findClass R_La = some m.cls := findClass_of_methodNamed B.named
  have hlocks := B.notSynchronized
  subst hsz
  have hl := lv_entry ([.ref (ad 0), .int (x1), .int (x2), .int (x3), .ref (qo)]) (n := 6) (Nat.le_of_ble_eq_true rfl)
  rw [lg_entry_eq]
  generalize (lg_sl ([.ref (ad 0), .int (x1), .int (x2), .int (x3), .ref (qo)]) ++ List.replicate (6 - (lg_sl ([.ref (ad 0), .int (x1), .int (x2), .int (x3), .ref (qo)])).length) Slot.unset).toArray = ls at hl ⊢
  have hl : lv_has ls 6 [(0, .ref (ad 0)), (1, .int (x1)), (2, .int (x2)), (3, .int (x3)), (4, .ref (qo))] := hl
  have hKW : KW D cI cB cR ad s := ⟨hK, hKB, hTH.1.narrow (fun q h => Or.inl h), hTH.2.narrow (fun q h => Or.inl h)⟩
  have htb := vx_table (x := y_La_times) B (hts _ List.mem_cons_self)
  refine lv_aload hx hb d_La_times_0 (lv_at hl 4 rfl) ?_
  refine lv_iconst (v := nI (0)) hx hb d_La_times_2 (by decide) ?_
  refine lv_aload_n hx hb d_La_times_3 rfl (lv_at hl 0 rfl) ?_
  refine lv_iload_n hx hb d_La_times_4 rfl (lv_at hl 1 rfl) ?_
  refine lv_iload_n hx hb d_La_times_5 rfl (lv_at hl 2 rfl) ?_
  refine lv_iload_n hx hb d_La_times_6 rfl (lv_at hl 3 rfl) ?_
  refine hC_i (As := [.int (x1), .int (x2), .int (x3)]) (rest := [.int (nI (0)), .ref (qo)]) (n := 3) ⟨hx, hb, hml, hown, hts⟩ (c_Lw_times l w _ hl9 x1 x2 x3 A hCI) (cwV0 3 hts lm_La_33 im_Lw_times se_Lw_times in_Lw kq_Lw_times rfl rfl rfl (by decide +kernel) ⟨Nat.le_of_ble_eq_true rfl, Nat.le_of_ble_eq_true rfl⟩) (recvL hKW.1 hP) hKW hP hD0 hO hqo rfl hl.1 rfl (Nat.le_of_ble_eq_true rfl) d_La_times_7 ⟨Nat.le_of_ble_eq_true rfl, Nat.le_of_ble_eq_true rfl⟩ (fun E ce q9 u H locs hp hP hO hS hcell hcv hcl => ?_) (fun r u H locs hp hP hO hS => ?_)
  · obtain ⟨A9, hCI9, hor⟩ := hp
    rcases hor with ⟨hE, hR⟩ | ⟨hE, hR⟩
    · subst hE
      refine vx_catch (own := R_La) (name := E_IA) hown [] ⟨0, 12, 15, 13⟩ [⟨0, 12, 19, 23⟩] htb (fun z hz => absurd hz List.not_mem_nil) (by decide) (by decide) (hA_ hts lc_La_13) (cs_IA hKB) hcell hcv hcl ?_
      refine lv_astore (lv' := [(5, .ref (q9)), (0, .ref (ad 0)), (1, .int (x1)), (2, .int (x2)), (3, .int (x3)), (4, .ref (qo))]) hx hb d_La_times_15 hl (by decide) rfl (fun ls hl => ?_)
      refine lv_iconst (v := nI (1)) hx hb d_La_times_17 (by decide) ?_
      exact vx_ret (W.widen (k := 4) (n := 24) (Nat.le_of_ble_eq_true rfl) (Nat.le_of_ble_eq_true rfl) (W.iret (v := nI (1)) hx hb hr (fun t ht hW => ⟨⟨_, (u, f), rfl, ⟨by rw [hR]; exact hCI9, by rw [hR], fun h => absurd (show (sp_times x1 x2 x3 A).1 = 0 from h) (by rw [hR]; show ¬ (1 : Nat) = 0; decide)⟩, by rw [ht]; exact hP, by rw [ht]; exact hO⟩, hS.F ht⟩) hS.2.2 d_La_times_18))
    · subst hE
      refine vx_catch (own := R_La) (name := E_IS) hown [⟨0, 12, 15, 13⟩] ⟨0, 12, 19, 23⟩ [] htb (fun z hz => by rw [List.mem_singleton.mp hz]; exact Or.inr ⟨by decide, E_IA, hA_ hts lc_La_13, hNc.1⟩) (by decide) (by decide) (hA_ hts lc_La_23) (cs_IS hKB) hcell hcv hcl ?_
      refine lv_astore (lv' := [(5, .ref (q9)), (0, .ref (ad 0)), (1, .int (x1)), (2, .int (x2)), (3, .int (x3)), (4, .ref (qo))]) hx hb d_La_times_19 hl (by decide) rfl (fun ls hl => ?_)
      refine lv_iconst (v := nI (2)) hx hb d_La_times_21 (by decide) ?_
      exact vx_ret (W.widen (k := 4) (n := 24) (Nat.le_of_ble_eq_true rfl) (Nat.le_of_ble_eq_true rfl) (W.iret (v := nI (2)) hx hb hr (fun t ht hW => ⟨⟨_, (u, f), rfl, ⟨by rw [hR]; exact hCI9, by rw [hR], fun h => absurd (show (sp_times x1 x2 x3 A).1 = 0 from h) (by rw [hR]; show ¬ (2 : Nat) = 0; decide)⟩, by rw [ht]; exact hP, by rw [ht]; exact hO⟩, hS.F ht⟩) hS.2.2 d_La_times_22))
  · obtain ⟨A9, hCI9, hR⟩ := hp
    refine lv_i2l (v := r.toInt64) hx hb d_La_times_10 rfl ?_
    refine hS_l hx hb hKL hP (NC_D hD0) hO hqo hS d_La_times_11 (fun H locs hP hO hS => ?_)
    refine lv_goto (tgt := 23) hx hb d_La_times_12 (by decide) ?_
    refine lv_iconst (v := nI (0)) hx hb d_La_times_23 (by decide) ?_
    exact vx_ret (W.widen (k := 4) (n := 24) (Nat.le_of_ble_eq_true rfl) (Nat.le_of_ble_eq_true rfl) (W.iret (v := nI (0)) hx hb hr (fun t ht hW => ⟨⟨_, (u, vp_updL f 0 (r.toInt64)), rfl, ⟨by rw [hR]; exact hCI9, by rw [hR], fun _ => by rw [hR]; rfl⟩, by rw [ht]; exact hP, by rw [ht]; exact hO⟩, hS.F ht⟩) hS.2.2 d_La_times_24))
set_option maxHeartbeats 4000000 in
set_option maxRecDepth 100000 in
/-- divide -/
theorem c_La_divide (l : Launch) {D : va_G} {cI cB cR cL : ClassId} {ad : Nat → Nat} {qo : Nat} (w : St) (f : Nat → Int64) (sz : Nat) (hl9 : l.stackTraces = false) (x1 x2 x3 x4 : Int32) (A : Ab) (hCI : CI w A) : vx_Met l y_La_divide (q_La_divide :: wA) { frames := 99, cells := 5, slots := 30, locals := 3840 } (va_Pc [.ref (ad 0), .int (x1), .int (x2), .int (x3), .int (x4), .ref (qo)] (PH D cI cB cR cL ad qo w f sz)) (va_Qi (fun r u => ph (sp_divide x1 x2 x3 x4 A) r u) (BH D cI cB cR cL ad qo) (AH ad qo sz)) FX 5 30 (AH ad qo sz) := by
  refine vx_ofWH (cc := b_La_divide) (maxL := 7) (ret := (some (.int))) (hh := [(0, 14, 17, 13), (0, 14, 21, 31)]) (by decide) rfl ?_
  intro p e s m args below meth c s₁ B hml hv
  obtain ⟨rfl, hsz, ⟨hP, hD0⟩, ⟨hO, hqo⟩, ⟨hK, hKL⟩, hKB, hTH, hNc⟩ := hv
  have hx := B.exec
  have hb := B.bytes
  have hr := B.returns
  have hts := atoms_spec (ws := q_La_divide :: wA) B.pre
  have hown : s.vm.findClass R_La = some m.cls := findClass_of_methodNamed B.named
  have hlocks := B.notSynchronized
  subst hsz
  have hl := lv_entry ([.ref (ad 0), .int (x1), .int (x2), .int (x3), .int (x4), .ref (qo)]) (n := 7) (Nat.le_of_ble_eq_true rfl)
  rw [lg_entry_eq]
  generalize (lg_sl ([.ref (ad 0), .int (x1), .int (x2), .int (x3), .int (x4), .ref (qo)]) ++ List.replicate (7 - (lg_sl ([.ref (ad 0), .int (x1), .int (x2), .int (x3), .int (x4), .ref (qo)])).length) Slot.unset).toArray = ls at hl ⊢
  have hl : lv_has ls 7 [(0, .ref (ad 0)), (1, .int (x1)), (2, .int (x2)), (3, .int (x3)), (4, .int (x4)), (5, .ref (qo))] := hl
  have hKW : KW D cI cB cR ad s := ⟨hK, hKB, hTH.1.narrow (fun q h => Or.inl h), hTH.2.narrow (fun q h => Or.inl h)⟩
  have htb := vx_table (x := y_La_divide) B (hts _ List.mem_cons_self)
  refine lv_aload hx hb d_La_divide_0 (lv_at hl 5 rfl) ?_
  refine lv_iconst (v := nI (0)) hx hb d_La_divide_2 (by decide) ?_
  refine lv_aload_n hx hb d_La_divide_3 rfl (lv_at hl 0 rfl) ?_
  refine lv_iload_n hx hb d_La_divide_4 rfl (lv_at hl 1 rfl) ?_
  refine lv_iload_n hx hb d_La_divide_5 rfl (lv_at hl 2 rfl) ?_
  refine lv_iload_n hx hb d_La_divide_6 rfl (lv_at hl 3 rfl) ?_
  refine lv_iload hx hb d_La_divide_7 (lv_at hl 4 rfl) ?_
  refine hC_i (As := [.int (x1), .int (x2), .int (x3), .int (x4)]) (rest := [.int (nI (0)), .ref (qo)]) (n := 4) ⟨hx, hb, hml, hown, hts⟩ (c_Lw_divide l w _ hl9 x1 x2 x3 x4 A hCI) (cwV0 4 hts lm_La_36 im_Lw_divide se_Lw_divide in_Lw kq_Lw_divide rfl rfl rfl (by decide +kernel) ⟨Nat.le_of_ble_eq_true rfl, Nat.le_of_ble_eq_true rfl⟩) (recvL hKW.1 hP) hKW hP hD0 hO hqo rfl hl.1 rfl (Nat.le_of_ble_eq_true rfl) d_La_divide_9 ⟨Nat.le_of_ble_eq_true rfl, Nat.le_of_ble_eq_true rfl⟩ (fun E ce q9 u H locs hp hP hO hS hcell hcv hcl => ?_) (fun r u H locs hp hP hO hS => ?_)
  · obtain ⟨A9, hCI9, hor⟩ := hp
    rcases hor with ⟨hE, hR⟩ | ⟨hE, hR⟩
    · subst hE
      refine vx_catch (own := R_La) (name := E_IA) hown [] ⟨0, 14, 17, 13⟩ [⟨0, 14, 21, 31⟩] htb (fun z hz => absurd hz List.not_mem_nil) (by decide) (by decide) (hA_ hts lc_La_13) (cs_IA hKB) hcell hcv hcl ?_
      refine lv_astore (lv' := [(6, .ref (q9)), (0, .ref (ad 0)), (1, .int (x1)), (2, .int (x2)), (3, .int (x3)), (4, .int (x4)), (5, .ref (qo))]) hx hb d_La_divide_17 hl (by decide) rfl (fun ls hl => ?_)
      refine lv_iconst (v := nI (1)) hx hb d_La_divide_19 (by decide) ?_
      exact vx_ret (W.widen (k := 5) (n := 30) (Nat.le_of_ble_eq_true rfl) (Nat.le_of_ble_eq_true rfl) (W.iret (v := nI (1)) hx hb hr (fun t ht hW => ⟨⟨_, (u, f), rfl, ⟨by rw [hR]; exact hCI9, by rw [hR], fun h => absurd (show (sp_divide x1 x2 x3 x4 A).1 = 0 from h) (by rw [hR]; show ¬ (1 : Nat) = 0; decide)⟩, by rw [ht]; exact hP, by rw [ht]; exact hO⟩, hS.F ht⟩) hS.2.2 d_La_divide_20))
    · subst hE
      refine vx_catch (own := R_La) (name := E_AR) hown [⟨0, 14, 17, 13⟩] ⟨0, 14, 21, 31⟩ [] htb (fun z hz => by rw [List.mem_singleton.mp hz]; exact Or.inr ⟨by decide, E_IA, hA_ hts lc_La_13, hNc.2.1⟩) (by decide) (by decide) (hA_ hts lc_La_31) (cs_AR hKB) hcell hcv hcl ?_
      refine lv_astore (lv' := [(6, .ref (q9)), (0, .ref (ad 0)), (1, .int (x1)), (2, .int (x2)), (3, .int (x3)), (4, .int (x4)), (5, .ref (qo))]) hx hb d_La_divide_21 hl (by decide) rfl (fun ls hl => ?_)
      refine lv_iconst (v := nI (2)) hx hb d_La_divide_23 (by decide) ?_
      exact vx_ret (W.widen (k := 5) (n := 30) (Nat.le_of_ble_eq_true rfl) (Nat.le_of_ble_eq_true rfl) (W.iret (v := nI (2)) hx hb hr (fun t ht hW => ⟨⟨_, (u, f), rfl, ⟨by rw [hR]; exact hCI9, by rw [hR], fun h => absurd (show (sp_divide x1 x2 x3 x4 A).1 = 0 from h) (by rw [hR]; show ¬ (2 : Nat) = 0; decide)⟩, by rw [ht]; exact hP, by rw [ht]; exact hO⟩, hS.F ht⟩) hS.2.2 d_La_divide_24))
  · obtain ⟨A9, hCI9, hR⟩ := hp
    refine lv_i2l (v := r.toInt64) hx hb d_La_divide_12 rfl ?_
    refine hS_l hx hb hKL hP (NC_D hD0) hO hqo hS d_La_divide_13 (fun H locs hP hO hS => ?_)
    refine lv_goto (tgt := 25) hx hb d_La_divide_14 (by decide) ?_
    refine lv_iconst (v := nI (0)) hx hb d_La_divide_25 (by decide) ?_
    exact vx_ret (W.widen (k := 5) (n := 30) (Nat.le_of_ble_eq_true rfl) (Nat.le_of_ble_eq_true rfl) (W.iret (v := nI (0)) hx hb hr (fun t ht hW => ⟨⟨_, (u, vp_updL f 0 (r.toInt64)), rfl, ⟨by rw [hR]; exact hCI9, by rw [hR], fun _ => by rw [hR]; rfl⟩, by rw [ht]; exact hP, by rw [ht]; exact hO⟩, hS.F ht⟩) hS.2.2 d_La_divide_26))
set_option maxHeartbeats 4000000 in
set_option maxRecDepth 100000 in
/-- power -/
theorem c_La_power (l : Launch) {D : va_G} {cI cB cR cL : ClassId} {ad : Nat → Nat} {qo : Nat} (w : St) (f : Nat → Int64) (sz : Nat) (hl9 : l.stackTraces = false) (x1 x2 n : Int32) (A : Ab) (hCI : CI w A) : vx_Met l y_La_power (q_La_power :: wA) { frames := 51, cells := 4, slots := 24, locals := 2090 } (va_Pc [.ref (ad 0), .int (x1), .int (x2), .int (n), .ref (qo)] (PH D cI cB cR cL ad qo w f sz)) (va_Qi (fun r u => ph (sp_power x1 x2 n A) r u) (BH D cI cB cR cL ad qo) (AH ad qo sz)) FX 4 24 (AH ad qo sz) := by
  refine vx_ofWH (cc := b_La_power) (maxL := 6) (ret := (some (.int))) (hh := [(0, 12, 15, 13), (0, 12, 19, 23)]) (by decide) rfl ?_
  intro p e s m args below meth c s₁ B hml hv
  obtain ⟨rfl, hsz, ⟨hP, hD0⟩, ⟨hO, hqo⟩, ⟨hK, hKL⟩, hKB, hTH, hNc⟩ := hv
  have hx := B.exec
  have hb := B.bytes
  have hr := B.returns
  have hts := atoms_spec (ws := q_La_power :: wA) B.pre
  have hown : s.vm.findClass R_La = some m.cls := findClass_of_methodNamed B.named
  have hlocks := B.notSynchronized
  subst hsz
  have hl := lv_entry ([.ref (ad 0), .int (x1), .int (x2), .int (n), .ref (qo)]) (n := 6) (Nat.le_of_ble_eq_true rfl)
  rw [lg_entry_eq]
  generalize (lg_sl ([.ref (ad 0), .int (x1), .int (x2), .int (n), .ref (qo)]) ++ List.replicate (6 - (lg_sl ([.ref (ad 0), .int (x1), .int (x2), .int (n), .ref (qo)])).length) Slot.unset).toArray = ls at hl ⊢
  have hl : lv_has ls 6 [(0, .ref (ad 0)), (1, .int (x1)), (2, .int (x2)), (3, .int (n)), (4, .ref (qo))] := hl
  have hKW : KW D cI cB cR ad s := ⟨hK, hKB, hTH.1.narrow (fun q h => Or.inl h), hTH.2.narrow (fun q h => Or.inl h)⟩
  have htb := vx_table (x := y_La_power) B (hts _ List.mem_cons_self)
  refine lv_aload hx hb d_La_power_0 (lv_at hl 4 rfl) ?_
  refine lv_iconst (v := nI (0)) hx hb d_La_power_2 (by decide) ?_
  refine lv_aload_n hx hb d_La_power_3 rfl (lv_at hl 0 rfl) ?_
  refine lv_iload_n hx hb d_La_power_4 rfl (lv_at hl 1 rfl) ?_
  refine lv_iload_n hx hb d_La_power_5 rfl (lv_at hl 2 rfl) ?_
  refine lv_iload_n hx hb d_La_power_6 rfl (lv_at hl 3 rfl) ?_
  refine hC_i (As := [.int (x1), .int (x2), .int (n)]) (rest := [.int (nI (0)), .ref (qo)]) (n := 3) ⟨hx, hb, hml, hown, hts⟩ (c_Lw_power l w _ hl9 x1 x2 n A hCI) (cwV0 3 hts lm_La_40 im_Lw_power se_Lw_power in_Lw kq_Lw_power rfl rfl rfl (by decide +kernel) ⟨Nat.le_of_ble_eq_true rfl, Nat.le_of_ble_eq_true rfl⟩) (recvL hKW.1 hP) hKW hP hD0 hO hqo rfl hl.1 rfl (Nat.le_of_ble_eq_true rfl) d_La_power_7 ⟨Nat.le_of_ble_eq_true rfl, Nat.le_of_ble_eq_true rfl⟩ (fun E ce q9 u H locs hp hP hO hS hcell hcv hcl => ?_) (fun r u H locs hp hP hO hS => ?_)
  · obtain ⟨A9, hCI9, hor⟩ := hp
    rcases hor with ⟨hE, hR⟩ | ⟨hE, hR⟩
    · subst hE
      refine vx_catch (own := R_La) (name := E_IA) hown [] ⟨0, 12, 15, 13⟩ [⟨0, 12, 19, 23⟩] htb (fun z hz => absurd hz List.not_mem_nil) (by decide) (by decide) (hA_ hts lc_La_13) (cs_IA hKB) hcell hcv hcl ?_
      refine lv_astore (lv' := [(5, .ref (q9)), (0, .ref (ad 0)), (1, .int (x1)), (2, .int (x2)), (3, .int (n)), (4, .ref (qo))]) hx hb d_La_power_15 hl (by decide) rfl (fun ls hl => ?_)
      refine lv_iconst (v := nI (1)) hx hb d_La_power_17 (by decide) ?_
      exact vx_ret (W.widen (k := 4) (n := 24) (Nat.le_of_ble_eq_true rfl) (Nat.le_of_ble_eq_true rfl) (W.iret (v := nI (1)) hx hb hr (fun t ht hW => ⟨⟨_, (u, f), rfl, ⟨by rw [hR]; exact hCI9, by rw [hR], fun h => absurd (show (sp_power x1 x2 n A).1 = 0 from h) (by rw [hR]; show ¬ (1 : Nat) = 0; decide)⟩, by rw [ht]; exact hP, by rw [ht]; exact hO⟩, hS.F ht⟩) hS.2.2 d_La_power_18))
    · subst hE
      refine vx_catch (own := R_La) (name := E_IS) hown [⟨0, 12, 15, 13⟩] ⟨0, 12, 19, 23⟩ [] htb (fun z hz => by rw [List.mem_singleton.mp hz]; exact Or.inr ⟨by decide, E_IA, hA_ hts lc_La_13, hNc.1⟩) (by decide) (by decide) (hA_ hts lc_La_23) (cs_IS hKB) hcell hcv hcl ?_
      refine lv_astore (lv' := [(5, .ref (q9)), (0, .ref (ad 0)), (1, .int (x1)), (2, .int (x2)), (3, .int (n)), (4, .ref (qo))]) hx hb d_La_power_19 hl (by decide) rfl (fun ls hl => ?_)
      refine lv_iconst (v := nI (2)) hx hb d_La_power_21 (by decide) ?_
      exact vx_ret (W.widen (k := 4) (n := 24) (Nat.le_of_ble_eq_true rfl) (Nat.le_of_ble_eq_true rfl) (W.iret (v := nI (2)) hx hb hr (fun t ht hW => ⟨⟨_, (u, f), rfl, ⟨by rw [hR]; exact hCI9, by rw [hR], fun h => absurd (show (sp_power x1 x2 n A).1 = 0 from h) (by rw [hR]; show ¬ (2 : Nat) = 0; decide)⟩, by rw [ht]; exact hP, by rw [ht]; exact hO⟩, hS.F ht⟩) hS.2.2 d_La_power_22))
  · obtain ⟨A9, hCI9, hR⟩ := hp
    refine lv_i2l (v := r.toInt64) hx hb d_La_power_10 rfl ?_
    refine hS_l hx hb hKL hP (NC_D hD0) hO hqo hS d_La_power_11 (fun H locs hP hO hS => ?_)
    refine lv_goto (tgt := 23) hx hb d_La_power_12 (by decide) ?_
    refine lv_iconst (v := nI (0)) hx hb d_La_power_23 (by decide) ?_
    exact vx_ret (W.widen (k := 4) (n := 24) (Nat.le_of_ble_eq_true rfl) (Nat.le_of_ble_eq_true rfl) (W.iret (v := nI (0)) hx hb hr (fun t ht hW => ⟨⟨_, (u, vp_updL f 0 (r.toInt64)), rfl, ⟨by rw [hR]; exact hCI9, by rw [hR], fun _ => by rw [hR]; rfl⟩, by rw [ht]; exact hP, by rw [ht]; exact hO⟩, hS.F ht⟩) hS.2.2 d_La_power_24))
set_option maxHeartbeats 4000000 in
set_option maxRecDepth 100000 in
/-- root -/
theorem c_La_root (l : Launch) {D : va_G} {cI cB cR cL : ClassId} {ad : Nat → Nat} {qo : Nat} (w : St) (f : Nat → Int64) (sz : Nat) (hl9 : l.stackTraces = false) (x1 x2 n : Int32) (A : Ab) (hCI : CI w A) : vx_Met l y_La_root (q_La_root :: wA) { frames := 101, cells := 3, slots := 18, locals := 3940 } (va_Pc [.ref (ad 0), .int (x1), .int (x2), .int (n), .ref (qo)] (PH D cI cB cR cL ad qo w f sz)) (va_Qi (fun r u => ph (sp_root x1 x2 n A) r u) (BH D cI cB cR cL ad qo) (AH ad qo sz)) FX 3 18 (AH ad qo sz) := by
  refine vx_ofWH (cc := b_La_root) (maxL := 6) (ret := (some (.int))) (hh := [(0, 12, 15, 13)]) (by decide) rfl ?_
  intro p e s m args below meth c s₁ B hml hv
  obtain ⟨rfl, hsz, ⟨hP, hD0⟩, ⟨hO, hqo⟩, ⟨hK, hKL⟩, hKB, hTH, hNc⟩ := hv
  have hx := B.exec
  have hb := B.bytes
  have hr := B.returns
  have hts := atoms_spec (ws := q_La_root :: wA) B.pre
  have hown : s.vm.findClass R_La = some m.cls := findClass_of_methodNamed B.named
  have hlocks := B.notSynchronized
  subst hsz
  have hl := lv_entry ([.ref (ad 0), .int (x1), .int (x2), .int (n), .ref (qo)]) (n := 6) (Nat.le_of_ble_eq_true rfl)
  rw [lg_entry_eq]
  generalize (lg_sl ([.ref (ad 0), .int (x1), .int (x2), .int (n), .ref (qo)]) ++ List.replicate (6 - (lg_sl ([.ref (ad 0), .int (x1), .int (x2), .int (n), .ref (qo)])).length) Slot.unset).toArray = ls at hl ⊢
  have hl : lv_has ls 6 [(0, .ref (ad 0)), (1, .int (x1)), (2, .int (x2)), (3, .int (n)), (4, .ref (qo))] := hl
  have hKW : KW D cI cB cR ad s := ⟨hK, hKB, hTH.1.narrow (fun q h => Or.inl h), hTH.2.narrow (fun q h => Or.inl h)⟩
  have htb := vx_table (x := y_La_root) B (hts _ List.mem_cons_self)
  refine lv_aload hx hb d_La_root_0 (lv_at hl 4 rfl) ?_
  refine lv_iconst (v := nI (0)) hx hb d_La_root_2 (by decide) ?_
  refine lv_aload_n hx hb d_La_root_3 rfl (lv_at hl 0 rfl) ?_
  refine lv_iload_n hx hb d_La_root_4 rfl (lv_at hl 1 rfl) ?_
  refine lv_iload_n hx hb d_La_root_5 rfl (lv_at hl 2 rfl) ?_
  refine lv_iload_n hx hb d_La_root_6 rfl (lv_at hl 3 rfl) ?_
  refine hC_i (As := [.int (x1), .int (x2), .int (n)]) (rest := [.int (nI (0)), .ref (qo)]) (n := 3) ⟨hx, hb, hml, hown, hts⟩ (c_Lw_root l w _ hl9 x1 x2 n A hCI) (cwV0 3 hts lm_La_43 im_Lw_root se_Lw_root in_Lw kq_Lw_root rfl rfl rfl (by decide +kernel) ⟨Nat.le_of_ble_eq_true rfl, Nat.le_of_ble_eq_true rfl⟩) (recvL hKW.1 hP) hKW hP hD0 hO hqo rfl hl.1 rfl (Nat.le_of_ble_eq_true rfl) d_La_root_7 ⟨Nat.le_of_ble_eq_true rfl, Nat.le_of_ble_eq_true rfl⟩ (fun E ce q9 u H locs hp hP hO hS hcell hcv hcl => ?_) (fun r u H locs hp hP hO hS => ?_)
  · obtain ⟨A9, hCI9, hor⟩ := hp
    rcases hor with ⟨hE, hR⟩ | ⟨hE, hR⟩
    · subst hE
      refine vx_catch (own := R_La) (name := E_IA) hown [] ⟨0, 12, 15, 13⟩ [] htb (fun z hz => absurd hz List.not_mem_nil) (by decide) (by decide) (hA_ hts lc_La_13) (cs_IA hKB) hcell hcv hcl ?_
      refine lv_astore (lv' := [(5, .ref (q9)), (0, .ref (ad 0)), (1, .int (x1)), (2, .int (x2)), (3, .int (n)), (4, .ref (qo))]) hx hb d_La_root_15 hl (by decide) rfl (fun ls hl => ?_)
      refine lv_iconst (v := nI (1)) hx hb d_La_root_17 (by decide) ?_
      exact vx_ret (W.widen (k := 3) (n := 18) (Nat.le_of_ble_eq_true rfl) (Nat.le_of_ble_eq_true rfl) (W.iret (v := nI (1)) hx hb hr (fun t ht hW => ⟨⟨_, (u, f), rfl, ⟨by rw [hR]; exact hCI9, by rw [hR], fun h => absurd (show (sp_root x1 x2 n A).1 = 0 from h) (by rw [hR]; show ¬ (1 : Nat) = 0; decide)⟩, by rw [ht]; exact hP, by rw [ht]; exact hO⟩, hS.F ht⟩) hS.2.2 d_La_root_18))
    · subst hE
      exfalso
      unfold sp_root at hR
      split at hR <;> simp at hR
  · obtain ⟨A9, hCI9, hR⟩ := hp
    refine lv_i2l (v := r.toInt64) hx hb d_La_root_10 rfl ?_
    refine hS_l hx hb hKL hP (NC_D hD0) hO hqo hS d_La_root_11 (fun H locs hP hO hS => ?_)
    refine lv_goto (tgt := 19) hx hb d_La_root_12 (by decide) ?_
    refine lv_iconst (v := nI (0)) hx hb d_La_root_19 (by decide) ?_
    exact vx_ret (W.widen (k := 3) (n := 18) (Nat.le_of_ble_eq_true rfl) (Nat.le_of_ble_eq_true rfl) (W.iret (v := nI (0)) hx hb hr (fun t ht hW => ⟨⟨_, (u, vp_updL f 0 (r.toInt64)), rfl, ⟨by rw [hR]; exact hCI9, by rw [hR], fun _ => by rw [hR]; rfl⟩, by rw [ht]; exact hP, by rw [ht]; exact hO⟩, hS.F ht⟩) hS.2.2 d_La_root_20))
set_option maxHeartbeats 4000000 in
set_option maxRecDepth 100000 in
/-- compare -/
theorem c_La_compare (l : Launch) {D : va_G} {cI cB cR cL : ClassId} {ad : Nat → Nat} {qo : Nat} (w : St) (f : Nat → Int64) (sz : Nat) (hl9 : l.stackTraces = false) (x1 x2 : Int32) (A : Ab) (hCI : CI w A) : vx_Met l y_La_compare (q_La_compare :: wA) { frames := 13, cells := 2, slots := 12, locals := 300 } (va_Pc [.ref (ad 0), .int (x1), .int (x2), .ref (qo)] (PH D cI cB cR cL ad qo w f sz)) (va_Qi (fun r u => ph (sp_compare x1 x2 A) r u) (BH D cI cB cR cL ad qo) (AH ad qo sz)) FX 2 12 (AH ad qo sz) := by
  refine vx_ofWH (cc := b_La_compare) (maxL := 5) (ret := (some (.int))) (hh := [(0, 10, 13, 13)]) (by decide) rfl ?_
  intro p e s m args below meth c s₁ B hml hv
  obtain ⟨rfl, hsz, ⟨hP, hD0⟩, ⟨hO, hqo⟩, ⟨hK, hKL⟩, hKB, hTH, hNc⟩ := hv
  have hx := B.exec
  have hb := B.bytes
  have hr := B.returns
  have hts := atoms_spec (ws := q_La_compare :: wA) B.pre
  have hown : s.vm.findClass R_La = some m.cls := findClass_of_methodNamed B.named
  have hlocks := B.notSynchronized
  subst hsz
  have hl := lv_entry ([.ref (ad 0), .int (x1), .int (x2), .ref (qo)]) (n := 5) (Nat.le_of_ble_eq_true rfl)
  rw [lg_entry_eq]
  generalize (lg_sl ([.ref (ad 0), .int (x1), .int (x2), .ref (qo)]) ++ List.replicate (5 - (lg_sl ([.ref (ad 0), .int (x1), .int (x2), .ref (qo)])).length) Slot.unset).toArray = ls at hl ⊢
  have hl : lv_has ls 5 [(0, .ref (ad 0)), (1, .int (x1)), (2, .int (x2)), (3, .ref (qo))] := hl
  have hKW : KW D cI cB cR ad s := ⟨hK, hKB, hTH.1.narrow (fun q h => Or.inl h), hTH.2.narrow (fun q h => Or.inl h)⟩
  have htb := vx_table (x := y_La_compare) B (hts _ List.mem_cons_self)
  refine lv_aload_n hx hb d_La_compare_0 rfl (lv_at hl 3 rfl) ?_
  refine lv_iconst (v := nI (0)) hx hb d_La_compare_1 (by decide) ?_
  refine lv_aload_n hx hb d_La_compare_2 rfl (lv_at hl 0 rfl) ?_
  refine lv_iload_n hx hb d_La_compare_3 rfl (lv_at hl 1 rfl) ?_
  refine lv_iload_n hx hb d_La_compare_4 rfl (lv_at hl 2 rfl) ?_
  refine hC_i (As := [.int (x1), .int (x2)]) (rest := [.int (nI (0)), .ref (qo)]) (n := 2) ⟨hx, hb, hml, hown, hts⟩ (c_Lw_compare l w _ hl9 x1 x2 A hCI) (cwV0 2 hts lm_La_46 im_Lw_compare se_Lw_compare in_Lw kq_Lw_compare rfl rfl rfl (by decide +kernel) ⟨Nat.le_of_ble_eq_true rfl, Nat.le_of_ble_eq_true rfl⟩) (recvL hKW.1 hP) hKW hP hD0 hO hqo rfl hl.1 rfl (Nat.le_of_ble_eq_true rfl) d_La_compare_5 ⟨Nat.le_of_ble_eq_true rfl, Nat.le_of_ble_eq_true rfl⟩ (fun E ce q9 u H locs hp hP hO hS hcell hcv hcl => ?_) (fun r u H locs hp hP hO hS => ?_)
  · obtain ⟨A9, hCI9, hor⟩ := hp
    rcases hor with ⟨hE, hR⟩ | ⟨hE, hR⟩
    · subst hE
      refine vx_catch (own := R_La) (name := E_IA) hown [] ⟨0, 10, 13, 13⟩ [] htb (fun z hz => absurd hz List.not_mem_nil) (by decide) (by decide) (hA_ hts lc_La_13) (cs_IA hKB) hcell hcv hcl ?_
      refine lv_astore (lv' := [(4, .ref (q9)), (0, .ref (ad 0)), (1, .int (x1)), (2, .int (x2)), (3, .ref (qo))]) hx hb d_La_compare_13 hl (by decide) rfl (fun ls hl => ?_)
      refine lv_iconst (v := nI (1)) hx hb d_La_compare_15 (by decide) ?_
      exact vx_ret (W.widen (k := 2) (n := 12) (Nat.le_of_ble_eq_true rfl) (Nat.le_of_ble_eq_true rfl) (W.iret (v := nI (1)) hx hb hr (fun t ht hW => ⟨⟨_, (u, f), rfl, ⟨by rw [hR]; exact hCI9, by rw [hR], fun h => absurd (show (sp_compare x1 x2 A).1 = 0 from h) (by rw [hR]; show ¬ (1 : Nat) = 0; decide)⟩, by rw [ht]; exact hP, by rw [ht]; exact hO⟩, hS.F ht⟩) hS.2.2 d_La_compare_16))
    · subst hE
      exfalso
      unfold sp_compare at hR
      split at hR <;> simp at hR
  · obtain ⟨A9, hCI9, hR⟩ := hp
    refine lv_i2l (v := r.toInt64) hx hb d_La_compare_8 rfl ?_
    refine hS_l hx hb hKL hP (NC_D hD0) hO hqo hS d_La_compare_9 (fun H locs hP hO hS => ?_)
    refine lv_goto (tgt := 17) hx hb d_La_compare_10 (by decide) ?_
    refine lv_iconst (v := nI (0)) hx hb d_La_compare_17 (by decide) ?_
    exact vx_ret (W.widen (k := 2) (n := 12) (Nat.le_of_ble_eq_true rfl) (Nat.le_of_ble_eq_true rfl) (W.iret (v := nI (0)) hx hb hr (fun t ht hW => ⟨⟨_, (u, vp_updL f 0 (r.toInt64)), rfl, ⟨by rw [hR]; exact hCI9, by rw [hR], fun _ => by rw [hR]; rfl⟩, by rw [ht]; exact hP, by rw [ht]; exact hO⟩, hS.F ht⟩) hS.2.2 d_La_compare_18))
set_option maxHeartbeats 4000000 in
set_option maxRecDepth 100000 in
/-- bits -/
theorem c_La_bits (l : Launch) {D : va_G} {cI cB cR cL : ClassId} {ad : Nat → Nat} {qo : Nat} (w : St) (f : Nat → Int64) (sz : Nat) (hl9 : l.stackTraces = false) (x1 : Int32) (A : Ab) (hCI : CI w A) : vx_Met l y_La_bits (q_La_bits :: wA) { frames := 13, cells := 1, slots := 6, locals := 300 } (va_Pc [.ref (ad 0), .int (x1), .ref (qo)] (PH D cI cB cR cL ad qo w f sz)) (va_Qi (fun r u => ph (sp_bits x1 A) r u) (BH D cI cB cR cL ad qo) (AH ad qo sz)) FX 1 6 (AH ad qo sz) := by
  refine vx_ofWH (cc := b_La_bits) (maxL := 4) (ret := (some (.int))) (hh := [(0, 9, 12, 13)]) (by decide) rfl ?_
  intro p e s m args below meth c s₁ B hml hv
  obtain ⟨rfl, hsz, ⟨hP, hD0⟩, ⟨hO, hqo⟩, ⟨hK, hKL⟩, hKB, hTH, hNc⟩ := hv
  have hx := B.exec
  have hb := B.bytes
  have hr := B.returns
  have hts := atoms_spec (ws := q_La_bits :: wA) B.pre
  have hown : s.vm.findClass R_La = some m.cls := findClass_of_methodNamed B.named
  have hlocks := B.notSynchronized
  subst hsz
  have hl := lv_entry ([.ref (ad 0), .int (x1), .ref (qo)]) (n := 4) (Nat.le_of_ble_eq_true rfl)
  rw [lg_entry_eq]
  generalize (lg_sl ([.ref (ad 0), .int (x1), .ref (qo)]) ++ List.replicate (4 - (lg_sl ([.ref (ad 0), .int (x1), .ref (qo)])).length) Slot.unset).toArray = ls at hl ⊢
  have hl : lv_has ls 4 [(0, .ref (ad 0)), (1, .int (x1)), (2, .ref (qo))] := hl
  have hKW : KW D cI cB cR ad s := ⟨hK, hKB, hTH.1.narrow (fun q h => Or.inl h), hTH.2.narrow (fun q h => Or.inl h)⟩
  have htb := vx_table (x := y_La_bits) B (hts _ List.mem_cons_self)
  refine lv_aload_n hx hb d_La_bits_0 rfl (lv_at hl 2 rfl) ?_
  refine lv_iconst (v := nI (0)) hx hb d_La_bits_1 (by decide) ?_
  refine lv_aload_n hx hb d_La_bits_2 rfl (lv_at hl 0 rfl) ?_
  refine lv_iload_n hx hb d_La_bits_3 rfl (lv_at hl 1 rfl) ?_
  refine hC_i (As := [.int (x1)]) (rest := [.int (nI (0)), .ref (qo)]) (n := 1) ⟨hx, hb, hml, hown, hts⟩ (c_Lw_bits l w _ hl9 x1 A hCI) (cwV0 1 hts lm_La_49 im_Lw_bits se_Lw_bits in_Lw kq_Lw_bits rfl rfl rfl (by decide +kernel) ⟨Nat.le_of_ble_eq_true rfl, Nat.le_of_ble_eq_true rfl⟩) (recvL hKW.1 hP) hKW hP hD0 hO hqo rfl hl.1 rfl (Nat.le_of_ble_eq_true rfl) d_La_bits_4 ⟨Nat.le_of_ble_eq_true rfl, Nat.le_of_ble_eq_true rfl⟩ (fun E ce q9 u H locs hp hP hO hS hcell hcv hcl => ?_) (fun r u H locs hp hP hO hS => ?_)
  · obtain ⟨A9, hCI9, hor⟩ := hp
    rcases hor with ⟨hE, hR⟩ | ⟨hE, hR⟩
    · subst hE
      refine vx_catch (own := R_La) (name := E_IA) hown [] ⟨0, 9, 12, 13⟩ [] htb (fun z hz => absurd hz List.not_mem_nil) (by decide) (by decide) (hA_ hts lc_La_13) (cs_IA hKB) hcell hcv hcl ?_
      refine lv_astore_n (lv' := [(3, .ref (q9)), (0, .ref (ad 0)), (1, .int (x1)), (2, .ref (qo))]) hx hb d_La_bits_12 rfl hl (by decide) rfl (fun ls hl => ?_)
      refine lv_iconst (v := nI (1)) hx hb d_La_bits_13 (by decide) ?_
      exact vx_ret (W.widen (k := 1) (n := 6) (Nat.le_of_ble_eq_true rfl) (Nat.le_of_ble_eq_true rfl) (W.iret (v := nI (1)) hx hb hr (fun t ht hW => ⟨⟨_, (u, f), rfl, ⟨by rw [hR]; exact hCI9, by rw [hR], fun h => absurd (show (sp_bits x1 A).1 = 0 from h) (by rw [hR]; show ¬ (1 : Nat) = 0; decide)⟩, by rw [ht]; exact hP, by rw [ht]; exact hO⟩, hS.F ht⟩) hS.2.2 d_La_bits_14))
    · subst hE
      exfalso
      unfold sp_bits at hR
      split at hR <;> simp at hR
  · obtain ⟨A9, hCI9, hR⟩ := hp
    refine lv_i2l (v := r.toInt64) hx hb d_La_bits_7 rfl ?_
    refine hS_l hx hb hKL hP (NC_D hD0) hO hqo hS d_La_bits_8 (fun H locs hP hO hS => ?_)
    refine lv_goto (tgt := 15) hx hb d_La_bits_9 (by decide) ?_
    refine lv_iconst (v := nI (0)) hx hb d_La_bits_15 (by decide) ?_
    exact vx_ret (W.widen (k := 1) (n := 6) (Nat.le_of_ble_eq_true rfl) (Nat.le_of_ble_eq_true rfl) (W.iret (v := nI (0)) hx hb hr (fun t ht hW => ⟨⟨_, (u, vp_updL f 0 (r.toInt64)), rfl, ⟨by rw [hR]; exact hCI9, by rw [hR], fun _ => by rw [hR]; rfl⟩, by rw [ht]; exact hP, by rw [ht]; exact hO⟩, hS.F ht⟩) hS.2.2 d_La_bits_16))
set_option maxHeartbeats 4000000 in
set_option maxRecDepth 100000 in
/-- word -/
theorem c_La_word (l : Launch) {D : va_G} {cI cB cR cL : ClassId} {ad : Nat → Nat} {qo : Nat} (w : St) (f : Nat → Int64) (sz : Nat) (hl9 : l.stackTraces = false) (x1 x2 : Int32) (A : Ab) (hCI : CI w A) : vx_Met l y_La_word (q_La_word :: wA) { frames := 13, cells := 2, slots := 12, locals := 300 } (va_Pc [.ref (ad 0), .int (x1), .int (x2), .ref (qo)] (PH D cI cB cR cL ad qo w f sz)) (va_Qi (fun r u => phl (sp_word x1 x2 A) r u) (BH D cI cB cR cL ad qo) (AH ad qo sz)) FX 2 12 (AH ad qo sz) := by
  refine vx_ofWH (cc := b_La_word) (maxL := 5) (ret := (some (.int))) (hh := [(0, 9, 12, 13)]) (by decide) rfl ?_
  intro p e s m args below meth c s₁ B hml hv
  obtain ⟨rfl, hsz, ⟨hP, hD0⟩, ⟨hO, hqo⟩, ⟨hK, hKL⟩, hKB, hTH, hNc⟩ := hv
  have hx := B.exec
  have hb := B.bytes
  have hr := B.returns
  have hts := atoms_spec (ws := q_La_word :: wA) B.pre
  have hown : s.vm.findClass R_La = some m.cls := findClass_of_methodNamed B.named
  have hlocks := B.notSynchronized
  subst hsz
  have hl := lv_entry ([.ref (ad 0), .int (x1), .int (x2), .ref (qo)]) (n := 5) (Nat.le_of_ble_eq_true rfl)
  rw [lg_entry_eq]
  generalize (lg_sl ([.ref (ad 0), .int (x1), .int (x2), .ref (qo)]) ++ List.replicate (5 - (lg_sl ([.ref (ad 0), .int (x1), .int (x2), .ref (qo)])).length) Slot.unset).toArray = ls at hl ⊢
  have hl : lv_has ls 5 [(0, .ref (ad 0)), (1, .int (x1)), (2, .int (x2)), (3, .ref (qo))] := hl
  have hKW : KW D cI cB cR ad s := ⟨hK, hKB, hTH.1.narrow (fun q h => Or.inl h), hTH.2.narrow (fun q h => Or.inl h)⟩
  have htb := vx_table (x := y_La_word) B (hts _ List.mem_cons_self)
  refine lv_aload_n hx hb d_La_word_0 rfl (lv_at hl 3 rfl) ?_
  refine lv_iconst (v := nI (0)) hx hb d_La_word_1 (by decide) ?_
  refine lv_aload_n hx hb d_La_word_2 rfl (lv_at hl 0 rfl) ?_
  refine lv_iload_n hx hb d_La_word_3 rfl (lv_at hl 1 rfl) ?_
  refine lv_iload_n hx hb d_La_word_4 rfl (lv_at hl 2 rfl) ?_
  refine hC_l (As := [.int (x1), .int (x2)]) (rest := [.int (nI (0)), .ref (qo)]) (n := 2) ⟨hx, hb, hml, hown, hts⟩ (c_Lw_word l w _ hl9 x1 x2 A hCI) (cwV0 2 hts lm_La_53 im_Lw_word se_Lw_word in_Lw kq_Lw_word rfl rfl rfl (by decide +kernel) ⟨Nat.le_of_ble_eq_true rfl, Nat.le_of_ble_eq_true rfl⟩) (recvL hKW.1 hP) hKW hP hD0 hO hqo rfl hl.1 rfl (Nat.le_of_ble_eq_true rfl) d_La_word_5 ⟨Nat.le_of_ble_eq_true rfl, Nat.le_of_ble_eq_true rfl⟩ (fun E ce q9 u H locs hp hP hO hS hcell hcv hcl => ?_) (fun r u H locs hp hP hO hS => ?_)
  · obtain ⟨A9, hCI9, hor⟩ := hp
    rcases hor with ⟨hE, hR⟩ | ⟨hE, hR⟩
    · subst hE
      refine vx_catch (own := R_La) (name := E_IA) hown [] ⟨0, 9, 12, 13⟩ [] htb (fun z hz => absurd hz List.not_mem_nil) (by decide) (by decide) (hA_ hts lc_La_13) (cs_IA hKB) hcell hcv hcl ?_
      refine lv_astore (lv' := [(4, .ref (q9)), (0, .ref (ad 0)), (1, .int (x1)), (2, .int (x2)), (3, .ref (qo))]) hx hb d_La_word_12 hl (by decide) rfl (fun ls hl => ?_)
      refine lv_iconst (v := nI (1)) hx hb d_La_word_14 (by decide) ?_
      exact vx_ret (W.widen (k := 2) (n := 12) (Nat.le_of_ble_eq_true rfl) (Nat.le_of_ble_eq_true rfl) (W.iret (v := nI (1)) hx hb hr (fun t ht hW => ⟨⟨_, (u, f), rfl, ⟨by rw [hR]; exact hCI9, by rw [hR], fun h => absurd (show (sp_word x1 x2 A).1 = 0 from h) (by rw [hR]; show ¬ (1 : Nat) = 0; decide)⟩, by rw [ht]; exact hP, by rw [ht]; exact hO⟩, hS.F ht⟩) hS.2.2 d_La_word_15))
    · subst hE
      exfalso
      unfold sp_word at hR
      split at hR <;> simp at hR
  · obtain ⟨A9, hCI9, hR⟩ := hp
    refine hS_l hx hb hKL hP (NC_D hD0) hO hqo hS d_La_word_8 (fun H locs hP hO hS => ?_)
    refine lv_goto (tgt := 16) hx hb d_La_word_9 (by decide) ?_
    refine lv_iconst (v := nI (0)) hx hb d_La_word_16 (by decide) ?_
    exact vx_ret (W.widen (k := 2) (n := 12) (Nat.le_of_ble_eq_true rfl) (Nat.le_of_ble_eq_true rfl) (W.iret (v := nI (0)) hx hb hr (fun t ht hW => ⟨⟨_, (u, vp_updL f 0 (r)), rfl, ⟨by rw [hR]; exact hCI9, by rw [hR], fun _ => by rw [hR]; rfl⟩, by rw [ht]; exact hP, by rw [ht]; exact hO⟩, hS.F ht⟩) hS.2.2 d_La_word_17))
set_option maxHeartbeats 4000000 in
set_option maxRecDepth 100000 in
/-- feed -/
theorem c_La_feed (l : Launch) {D : va_G} {cI cB cR cL : ClassId} {ad : Nat → Nat} {qo : Nat} (w : St) (f : Nat → Int64) (sz : Nat) (hl9 : l.stackTraces = false) (a b c9 d e9 : Int32) (A : Ab) (hCI : CI w A) : vx_Met l y_La_feed (q_La_feed :: wA) { frames := 13, cells := 1, slots := 6, locals := 300 } (va_Pc [.ref (ad 0), .int (a), .int (b), .int (c9), .int (d), .int (e9)] (PH D cI cB cR cL ad qo w f sz)) (va_Qi (fun r u => CI u.1 (sp_feed a b c9 d e9 A).2.2 ∧ r = nI (sp_feed a b c9 d e9 A).1) (BH D cI cB cR cL ad qo) (AH ad qo sz)) FX 1 6 (AH ad qo sz) := by
  refine vx_ofWH (cc := b_La_feed) (maxL := 7) (ret := (some (.int))) (hh := [(0, 11, 14, 23)]) (by decide) rfl ?_
  intro p e s m args below meth c s₁ B hml hv
  obtain ⟨rfl, hsz, ⟨hP, hD0⟩, ⟨hO, hqo⟩, ⟨hK, hKL⟩, hKB, hTH, hNc⟩ := hv
  have hx := B.exec
  have hb := B.bytes
  have hr := B.returns
  have hts := atoms_spec (ws := q_La_feed :: wA) B.pre
  have hown : s.vm.findClass R_La = some m.cls := findClass_of_methodNamed B.named
  have hlocks := B.notSynchronized
  subst hsz
  have hl := lv_entry ([.ref (ad 0), .int (a), .int (b), .int (c9), .int (d), .int (e9)]) (n := 7) (Nat.le_of_ble_eq_true rfl)
  rw [lg_entry_eq]
  generalize (lg_sl ([.ref (ad 0), .int (a), .int (b), .int (c9), .int (d), .int (e9)]) ++ List.replicate (7 - (lg_sl ([.ref (ad 0), .int (a), .int (b), .int (c9), .int (d), .int (e9)])).length) Slot.unset).toArray = ls at hl ⊢
  have hl : lv_has ls 7 [(0, .ref (ad 0)), (1, .int (a)), (2, .int (b)), (3, .int (c9)), (4, .int (d)), (5, .int (e9))] := hl
  have hKW : KW D cI cB cR ad s := ⟨hK, hKB, hTH.1.narrow (fun q h => Or.inl h), hTH.2.narrow (fun q h => Or.inl h)⟩
  have htb := vx_table (x := y_La_feed) B (hts _ List.mem_cons_self)
  refine lv_aload_n hx hb d_La_feed_0 rfl (lv_at hl 0 rfl) ?_
  refine lv_iload_n hx hb d_La_feed_1 rfl (lv_at hl 1 rfl) ?_
  refine lv_iload_n hx hb d_La_feed_2 rfl (lv_at hl 2 rfl) ?_
  refine lv_iload_n hx hb d_La_feed_3 rfl (lv_at hl 3 rfl) ?_
  refine lv_iload hx hb d_La_feed_4 (lv_at hl 4 rfl) ?_
  refine lv_iload hx hb d_La_feed_6 (lv_at hl 5 rfl) ?_
  refine hC_v (As := [.int (a), .int (b), .int (c9), .int (d), .int (e9)]) (rest := []) (n := 5) ⟨hx, hb, hml, hown, hts⟩ (c_Lw_feed l w _ hl9 a b c9 d e9 A hCI) (cwV0 5 hts lm_La_57 im_Lw_feed se_Lw_feed in_Lw kq_Lw_feed rfl rfl rfl (by decide +kernel) ⟨Nat.le_of_ble_eq_true rfl, Nat.le_of_ble_eq_true rfl⟩) (recvL hKW.1 hP) hKW hP hD0 hO hqo rfl hl.1 rfl (Nat.le_of_ble_eq_true rfl) d_La_feed_8 ⟨Nat.le_of_ble_eq_true rfl, Nat.le_of_ble_eq_true rfl⟩ (fun E ce q9 u H locs hp hP hO hS hcell hcv hcl => ?_) (fun u H locs hp hP hO hS => ?_)
  · obtain ⟨A9, hCI9, hor⟩ := hp
    rcases hor with ⟨hE, hR⟩ | ⟨hE, hR⟩
    · subst hE
      refine vx_catch (own := R_La) (name := E_IS) hown [] ⟨0, 11, 14, 23⟩ [] htb (fun z hz => absurd hz List.not_mem_nil) (by decide) (by decide) (hA_ hts lc_La_23) (cs_IS hKB) hcell hcv hcl ?_
      refine lv_astore (lv' := [(6, .ref (q9)), (0, .ref (ad 0)), (1, .int (a)), (2, .int (b)), (3, .int (c9)), (4, .int (d)), (5, .int (e9))]) hx hb d_La_feed_14 hl (by decide) rfl (fun ls hl => ?_)
      refine lv_iconst (v := nI (1)) hx hb d_La_feed_16 (by decide) ?_
      exact vx_ret (W.widen (k := 1) (n := 6) (Nat.le_of_ble_eq_true rfl) (Nat.le_of_ble_eq_true rfl) (W.iret (v := nI (1)) hx hb hr (fun t ht hW => ⟨⟨_, (u, f), rfl, ⟨by rw [hR]; exact hCI9, by rw [hR]⟩, by rw [ht]; exact hP, by rw [ht]; exact hO⟩, hS.F ht⟩) hS.2.2 d_La_feed_17))
    · subst hE
      exfalso
      unfold sp_feed at hR
      split at hR <;> simp at hR
  · obtain ⟨A9, hCI9, hR⟩ := hp
    refine lv_goto (tgt := 18) hx hb d_La_feed_11 (by decide) ?_
    refine lv_iconst (v := nI (0)) hx hb d_La_feed_18 (by decide) ?_
    exact vx_ret (W.widen (k := 1) (n := 6) (Nat.le_of_ble_eq_true rfl) (Nat.le_of_ble_eq_true rfl) (W.iret (v := nI (0)) hx hb hr (fun t ht hW => ⟨⟨_, (u, f), rfl, ⟨by rw [hR]; exact hCI9, by rw [hR]⟩, by rw [ht]; exact hP, by rw [ht]; exact hO⟩, hS.F ht⟩) hS.2.2 d_La_feed_19))
set_option maxHeartbeats 4000000 in
set_option maxRecDepth 100000 in
/-- end -/
theorem c_La_end (l : Launch) {D : va_G} {cI cB cR cL : ClassId} {ad : Nat → Nat} {qo : Nat} (w : St) (f : Nat → Int64) (sz : Nat) (hl9 : l.stackTraces = false) (n : Int32) (A : Ab) (hCI : CI w A) : vx_Met l y_La_end (q_La_end :: wA) { frames := 13, cells := 1, slots := 6, locals := 300 } (va_Pc [.ref (ad 0), .int (n), .ref (qo)] (PH D cI cB cR cL ad qo w f sz)) (va_Qi (fun r u => ph (sp_end n A) r u) (BH D cI cB cR cL ad qo) (AH ad qo sz)) FX 1 6 (AH ad qo sz) := by
  refine vx_ofWH (cc := b_La_end) (maxL := 4) (ret := (some (.int))) (hh := [(0, 9, 12, 13)]) (by decide) rfl ?_
  intro p e s m args below meth c s₁ B hml hv
  obtain ⟨rfl, hsz, ⟨hP, hD0⟩, ⟨hO, hqo⟩, ⟨hK, hKL⟩, hKB, hTH, hNc⟩ := hv
  have hx := B.exec
  have hb := B.bytes
  have hr := B.returns
  have hts := atoms_spec (ws := q_La_end :: wA) B.pre
  have hown : s.vm.findClass R_La = some m.cls := findClass_of_methodNamed B.named
  have hlocks := B.notSynchronized
  subst hsz
  have hl := lv_entry ([.ref (ad 0), .int (n), .ref (qo)]) (n := 4) (Nat.le_of_ble_eq_true rfl)
  rw [lg_entry_eq]
  generalize (lg_sl ([.ref (ad 0), .int (n), .ref (qo)]) ++ List.replicate (4 - (lg_sl ([.ref (ad 0), .int (n), .ref (qo)])).length) Slot.unset).toArray = ls at hl ⊢
  have hl : lv_has ls 4 [(0, .ref (ad 0)), (1, .int (n)), (2, .ref (qo))] := hl
  have hKW : KW D cI cB cR ad s := ⟨hK, hKB, hTH.1.narrow (fun q h => Or.inl h), hTH.2.narrow (fun q h => Or.inl h)⟩
  have htb := vx_table (x := y_La_end) B (hts _ List.mem_cons_self)
  refine lv_aload_n hx hb d_La_end_0 rfl (lv_at hl 2 rfl) ?_
  refine lv_iconst (v := nI (0)) hx hb d_La_end_1 (by decide) ?_
  refine lv_aload_n hx hb d_La_end_2 rfl (lv_at hl 0 rfl) ?_
  refine lv_iload_n hx hb d_La_end_3 rfl (lv_at hl 1 rfl) ?_
  refine hC_i (As := [.int (n)]) (rest := [.int (nI (0)), .ref (qo)]) (n := 1) ⟨hx, hb, hml, hown, hts⟩ (c_Lw_end l w _ hl9 n A hCI) (cwV0 1 hts lm_La_61 im_Lw_end se_Lw_end in_Lw kq_Lw_end rfl rfl rfl (by decide +kernel) ⟨Nat.le_of_ble_eq_true rfl, Nat.le_of_ble_eq_true rfl⟩) (recvL hKW.1 hP) hKW hP hD0 hO hqo rfl hl.1 rfl (Nat.le_of_ble_eq_true rfl) d_La_end_4 ⟨Nat.le_of_ble_eq_true rfl, Nat.le_of_ble_eq_true rfl⟩ (fun E ce q9 u H locs hp hP hO hS hcell hcv hcl => ?_) (fun r u H locs hp hP hO hS => ?_)
  · obtain ⟨A9, hCI9, hor⟩ := hp
    rcases hor with ⟨hE, hR⟩ | ⟨hE, hR⟩
    · subst hE
      refine vx_catch (own := R_La) (name := E_IA) hown [] ⟨0, 9, 12, 13⟩ [] htb (fun z hz => absurd hz List.not_mem_nil) (by decide) (by decide) (hA_ hts lc_La_13) (cs_IA hKB) hcell hcv hcl ?_
      refine lv_astore_n (lv' := [(3, .ref (q9)), (0, .ref (ad 0)), (1, .int (n)), (2, .ref (qo))]) hx hb d_La_end_12 rfl hl (by decide) rfl (fun ls hl => ?_)
      refine lv_iconst (v := nI (1)) hx hb d_La_end_13 (by decide) ?_
      exact vx_ret (W.widen (k := 1) (n := 6) (Nat.le_of_ble_eq_true rfl) (Nat.le_of_ble_eq_true rfl) (W.iret (v := nI (1)) hx hb hr (fun t ht hW => ⟨⟨_, (u, f), rfl, ⟨by rw [hR]; exact hCI9, by rw [hR], fun h => absurd (show (sp_end n A).1 = 0 from h) (by rw [hR]; show ¬ (1 : Nat) = 0; decide)⟩, by rw [ht]; exact hP, by rw [ht]; exact hO⟩, hS.F ht⟩) hS.2.2 d_La_end_14))
    · subst hE
      exfalso
      unfold sp_end at hR
      split at hR <;> simp at hR
  · obtain ⟨A9, hCI9, hR⟩ := hp
    refine lv_i2l (v := r.toInt64) hx hb d_La_end_7 rfl ?_
    refine hS_l hx hb hKL hP (NC_D hD0) hO hqo hS d_La_end_8 (fun H locs hP hO hS => ?_)
    refine lv_goto (tgt := 15) hx hb d_La_end_9 (by decide) ?_
    refine lv_iconst (v := nI (0)) hx hb d_La_end_15 (by decide) ?_
    exact vx_ret (W.widen (k := 1) (n := 6) (Nat.le_of_ble_eq_true rfl) (Nat.le_of_ble_eq_true rfl) (W.iret (v := nI (0)) hx hb hr (fun t ht hW => ⟨⟨_, (u, vp_updL f 0 (r.toInt64)), rfl, ⟨by rw [hR]; exact hCI9, by rw [hR], fun _ => by rw [hR]; rfl⟩, by rw [ht]; exact hP, by rw [ht]; exact hO⟩, hS.F ht⟩) hS.2.2 d_La_end_16))
set_option maxHeartbeats 4000000 in
set_option maxRecDepth 100000 in
/-- read -/
theorem c_La_read (l : Launch) {D : va_G} {cI cB cR cL : ClassId} {ad : Nat → Nat} {qo : Nat} (w : St) (f : Nat → Int64) (sz : Nat) (hl9 : l.stackTraces = false) (x1 b : Int32) (A : Ab) (hCI : CI w A) : vx_Met l y_La_read (q_La_read :: wA) { frames := 15, cells := 3, slots := 18, locals := 340 } (va_Pc [.ref (ad 0), .int (x1), .int (b), .ref (qo)] (PH D cI cB cR cL ad qo w f sz)) (va_Qi (fun r u => ph (sp_read x1 b A) r u) (BH D cI cB cR cL ad qo) (AH ad qo sz)) FX 3 18 (AH ad qo sz) := by
  refine vx_ofWH (cc := b_La_read) (maxL := 5) (ret := (some (.int))) (hh := [(0, 10, 13, 13), (0, 10, 17, 67)]) (by decide) rfl ?_
  intro p e s m args below meth c s₁ B hml hv
  obtain ⟨rfl, hsz, ⟨hP, hD0⟩, ⟨hO, hqo⟩, ⟨hK, hKL⟩, hKB, hTH, hNc⟩ := hv
  have hx := B.exec
  have hb := B.bytes
  have hr := B.returns
  have hts := atoms_spec (ws := q_La_read :: wA) B.pre
  have hown : s.vm.findClass R_La = some m.cls := findClass_of_methodNamed B.named
  have hlocks := B.notSynchronized
  subst hsz
  have hl := lv_entry ([.ref (ad 0), .int (x1), .int (b), .ref (qo)]) (n := 5) (Nat.le_of_ble_eq_true rfl)
  rw [lg_entry_eq]
  generalize (lg_sl ([.ref (ad 0), .int (x1), .int (b), .ref (qo)]) ++ List.replicate (5 - (lg_sl ([.ref (ad 0), .int (x1), .int (b), .ref (qo)])).length) Slot.unset).toArray = ls at hl ⊢
  have hl : lv_has ls 5 [(0, .ref (ad 0)), (1, .int (x1)), (2, .int (b)), (3, .ref (qo))] := hl
  have hKW : KW D cI cB cR ad s := ⟨hK, hKB, hTH.1.narrow (fun q h => Or.inl h), hTH.2.narrow (fun q h => Or.inl h)⟩
  have htb := vx_table (x := y_La_read) B (hts _ List.mem_cons_self)
  refine lv_aload_n hx hb d_La_read_0 rfl (lv_at hl 3 rfl) ?_
  refine lv_iconst (v := nI (0)) hx hb d_La_read_1 (by decide) ?_
  refine lv_aload_n hx hb d_La_read_2 rfl (lv_at hl 0 rfl) ?_
  refine lv_iload_n hx hb d_La_read_3 rfl (lv_at hl 1 rfl) ?_
  refine lv_iload_n hx hb d_La_read_4 rfl (lv_at hl 2 rfl) ?_
  refine hC_i (As := [.int (x1), .int (b)]) (rest := [.int (nI (0)), .ref (qo)]) (n := 2) ⟨hx, hb, hml, hown, hts⟩ (c_Lw_read l w _ hl9 x1 b A hCI) (cwV0 2 hts lm_La_64 im_Lw_read se_Lw_read in_Lw kq_Lw_read rfl rfl rfl (by decide +kernel) ⟨Nat.le_of_ble_eq_true rfl, Nat.le_of_ble_eq_true rfl⟩) (recvL hKW.1 hP) hKW hP hD0 hO hqo rfl hl.1 rfl (Nat.le_of_ble_eq_true rfl) d_La_read_5 ⟨Nat.le_of_ble_eq_true rfl, Nat.le_of_ble_eq_true rfl⟩ (fun E ce q9 u H locs hp hP hO hS hcell hcv hcl => ?_) (fun r u H locs hp hP hO hS => ?_)
  · obtain ⟨A9, hCI9, hor⟩ := hp
    rcases hor with ⟨hE, hR⟩ | ⟨hE, hR⟩
    · subst hE
      refine vx_catch (own := R_La) (name := E_IA) hown [] ⟨0, 10, 13, 13⟩ [⟨0, 10, 17, 67⟩] htb (fun z hz => absurd hz List.not_mem_nil) (by decide) (by decide) (hA_ hts lc_La_13) (cs_IA hKB) hcell hcv hcl ?_
      refine lv_astore (lv' := [(4, .ref (q9)), (0, .ref (ad 0)), (1, .int (x1)), (2, .int (b)), (3, .ref (qo))]) hx hb d_La_read_13 hl (by decide) rfl (fun ls hl => ?_)
      refine lv_iconst (v := nI (1)) hx hb d_La_read_15 (by decide) ?_
      exact vx_ret (W.widen (k := 3) (n := 18) (Nat.le_of_ble_eq_true rfl) (Nat.le_of_ble_eq_true rfl) (W.iret (v := nI (1)) hx hb hr (fun t ht hW => ⟨⟨_, (u, f), rfl, ⟨by rw [hR]; exact hCI9, by rw [hR], fun h => absurd (show (sp_read x1 b A).1 = 0 from h) (by rw [hR]; show ¬ (1 : Nat) = 0; decide)⟩, by rw [ht]; exact hP, by rw [ht]; exact hO⟩, hS.F ht⟩) hS.2.2 d_La_read_16))
    · subst hE
      refine vx_catch (own := R_La) (name := E_UO) hown [⟨0, 10, 13, 13⟩] ⟨0, 10, 17, 67⟩ [] htb (fun z hz => by rw [List.mem_singleton.mp hz]; exact Or.inr ⟨by decide, E_IA, hA_ hts lc_La_13, hNc.2.2⟩) (by decide) (by decide) (hA_ hts lc_La_67) (cs_UO hKB) hcell hcv hcl ?_
      refine lv_astore (lv' := [(4, .ref (q9)), (0, .ref (ad 0)), (1, .int (x1)), (2, .int (b)), (3, .ref (qo))]) hx hb d_La_read_17 hl (by decide) rfl (fun ls hl => ?_)
      refine lv_iconst (v := nI (2)) hx hb d_La_read_19 (by decide) ?_
      exact vx_ret (W.widen (k := 3) (n := 18) (Nat.le_of_ble_eq_true rfl) (Nat.le_of_ble_eq_true rfl) (W.iret (v := nI (2)) hx hb hr (fun t ht hW => ⟨⟨_, (u, f), rfl, ⟨by rw [hR]; exact hCI9, by rw [hR], fun h => absurd (show (sp_read x1 b A).1 = 0 from h) (by rw [hR]; show ¬ (2 : Nat) = 0; decide)⟩, by rw [ht]; exact hP, by rw [ht]; exact hO⟩, hS.F ht⟩) hS.2.2 d_La_read_20))
  · obtain ⟨A9, hCI9, hR⟩ := hp
    refine lv_i2l (v := r.toInt64) hx hb d_La_read_8 rfl ?_
    refine hS_l hx hb hKL hP (NC_D hD0) hO hqo hS d_La_read_9 (fun H locs hP hO hS => ?_)
    refine lv_goto (tgt := 21) hx hb d_La_read_10 (by decide) ?_
    refine lv_iconst (v := nI (0)) hx hb d_La_read_21 (by decide) ?_
    exact vx_ret (W.widen (k := 3) (n := 18) (Nat.le_of_ble_eq_true rfl) (Nat.le_of_ble_eq_true rfl) (W.iret (v := nI (0)) hx hb hr (fun t ht hW => ⟨⟨_, (u, vp_updL f 0 (r.toInt64)), rfl, ⟨by rw [hR]; exact hCI9, by rw [hR], fun _ => by rw [hR]; rfl⟩, by rw [ht]; exact hP, by rw [ht]; exact hO⟩, hS.F ht⟩) hS.2.2 d_La_read_22))
set_option maxHeartbeats 4000000 in
set_option maxRecDepth 100000 in
/-- write -/
theorem c_La_write (l : Launch) {D : va_G} {cI cB cR cL : ClassId} {ad : Nat → Nat} {qo : Nat} (w : St) (f : Nat → Int64) (sz : Nat) (hl9 : l.stackTraces = false) (x1 b : Int32) (A : Ab) (hCI : CI w A) : vx_Met l y_La_write (q_La_write :: wA) { frames := 15, cells := 4, slots := 24, locals := 340 } (va_Pc [.ref (ad 0), .int (x1), .int (b), .ref (qo)] (PH D cI cB cR cL ad qo w f sz)) (va_Qi (fun r u => ph (sp_write x1 b A) r u) (BH D cI cB cR cL ad qo) (AH ad qo sz)) FX 4 24 (AH ad qo sz) := by
  refine vx_ofWH (cc := b_La_write) (maxL := 5) (ret := (some (.int))) (hh := [(0, 10, 13, 13), (0, 10, 17, 23)]) (by decide) rfl ?_
  intro p e s m args below meth c s₁ B hml hv
  obtain ⟨rfl, hsz, ⟨hP, hD0⟩, ⟨hO, hqo⟩, ⟨hK, hKL⟩, hKB, hTH, hNc⟩ := hv
  have hx := B.exec
  have hb := B.bytes
  have hr := B.returns
  have hts := atoms_spec (ws := q_La_write :: wA) B.pre
  have hown : s.vm.findClass R_La = some m.cls := findClass_of_methodNamed B.named
  have hlocks := B.notSynchronized
  subst hsz
  have hl := lv_entry ([.ref (ad 0), .int (x1), .int (b), .ref (qo)]) (n := 5) (Nat.le_of_ble_eq_true rfl)
  rw [lg_entry_eq]
  generalize (lg_sl ([.ref (ad 0), .int (x1), .int (b), .ref (qo)]) ++ List.replicate (5 - (lg_sl ([.ref (ad 0), .int (x1), .int (b), .ref (qo)])).length) Slot.unset).toArray = ls at hl ⊢
  have hl : lv_has ls 5 [(0, .ref (ad 0)), (1, .int (x1)), (2, .int (b)), (3, .ref (qo))] := hl
  have hKW : KW D cI cB cR ad s := ⟨hK, hKB, hTH.1.narrow (fun q h => Or.inl h), hTH.2.narrow (fun q h => Or.inl h)⟩
  have htb := vx_table (x := y_La_write) B (hts _ List.mem_cons_self)
  refine lv_aload_n hx hb d_La_write_0 rfl (lv_at hl 3 rfl) ?_
  refine lv_iconst (v := nI (0)) hx hb d_La_write_1 (by decide) ?_
  refine lv_aload_n hx hb d_La_write_2 rfl (lv_at hl 0 rfl) ?_
  refine lv_iload_n hx hb d_La_write_3 rfl (lv_at hl 1 rfl) ?_
  refine lv_iload_n hx hb d_La_write_4 rfl (lv_at hl 2 rfl) ?_
  refine hC_i (As := [.int (x1), .int (b)]) (rest := [.int (nI (0)), .ref (qo)]) (n := 2) ⟨hx, hb, hml, hown, hts⟩ (c_Lw_write l w _ hl9 x1 b A hCI) (cwV0 2 hts lm_La_69 im_Lw_write se_Lw_write in_Lw kq_Lw_write rfl rfl rfl (by decide +kernel) ⟨Nat.le_of_ble_eq_true rfl, Nat.le_of_ble_eq_true rfl⟩) (recvL hKW.1 hP) hKW hP hD0 hO hqo rfl hl.1 rfl (Nat.le_of_ble_eq_true rfl) d_La_write_5 ⟨Nat.le_of_ble_eq_true rfl, Nat.le_of_ble_eq_true rfl⟩ (fun E ce q9 u H locs hp hP hO hS hcell hcv hcl => ?_) (fun r u H locs hp hP hO hS => ?_)
  · obtain ⟨A9, hCI9, hor⟩ := hp
    rcases hor with ⟨hE, hR⟩ | ⟨hE, hR⟩
    · subst hE
      refine vx_catch (own := R_La) (name := E_IA) hown [] ⟨0, 10, 13, 13⟩ [⟨0, 10, 17, 23⟩] htb (fun z hz => absurd hz List.not_mem_nil) (by decide) (by decide) (hA_ hts lc_La_13) (cs_IA hKB) hcell hcv hcl ?_
      refine lv_astore (lv' := [(4, .ref (q9)), (0, .ref (ad 0)), (1, .int (x1)), (2, .int (b)), (3, .ref (qo))]) hx hb d_La_write_13 hl (by decide) rfl (fun ls hl => ?_)
      refine lv_iconst (v := nI (1)) hx hb d_La_write_15 (by decide) ?_
      exact vx_ret (W.widen (k := 4) (n := 24) (Nat.le_of_ble_eq_true rfl) (Nat.le_of_ble_eq_true rfl) (W.iret (v := nI (1)) hx hb hr (fun t ht hW => ⟨⟨_, (u, f), rfl, ⟨by rw [hR]; exact hCI9, by rw [hR], fun h => absurd (show (sp_write x1 b A).1 = 0 from h) (by rw [hR]; show ¬ (1 : Nat) = 0; decide)⟩, by rw [ht]; exact hP, by rw [ht]; exact hO⟩, hS.F ht⟩) hS.2.2 d_La_write_16))
    · subst hE
      refine vx_catch (own := R_La) (name := E_IS) hown [⟨0, 10, 13, 13⟩] ⟨0, 10, 17, 23⟩ [] htb (fun z hz => by rw [List.mem_singleton.mp hz]; exact Or.inr ⟨by decide, E_IA, hA_ hts lc_La_13, hNc.1⟩) (by decide) (by decide) (hA_ hts lc_La_23) (cs_IS hKB) hcell hcv hcl ?_
      refine lv_astore (lv' := [(4, .ref (q9)), (0, .ref (ad 0)), (1, .int (x1)), (2, .int (b)), (3, .ref (qo))]) hx hb d_La_write_17 hl (by decide) rfl (fun ls hl => ?_)
      refine lv_iconst (v := nI (2)) hx hb d_La_write_19 (by decide) ?_
      exact vx_ret (W.widen (k := 4) (n := 24) (Nat.le_of_ble_eq_true rfl) (Nat.le_of_ble_eq_true rfl) (W.iret (v := nI (2)) hx hb hr (fun t ht hW => ⟨⟨_, (u, f), rfl, ⟨by rw [hR]; exact hCI9, by rw [hR], fun h => absurd (show (sp_write x1 b A).1 = 0 from h) (by rw [hR]; show ¬ (2 : Nat) = 0; decide)⟩, by rw [ht]; exact hP, by rw [ht]; exact hO⟩, hS.F ht⟩) hS.2.2 d_La_write_20))
  · obtain ⟨A9, hCI9, hR⟩ := hp
    refine lv_i2l (v := r.toInt64) hx hb d_La_write_8 rfl ?_
    refine hS_l hx hb hKL hP (NC_D hD0) hO hqo hS d_La_write_9 (fun H locs hP hO hS => ?_)
    refine lv_goto (tgt := 21) hx hb d_La_write_10 (by decide) ?_
    refine lv_iconst (v := nI (0)) hx hb d_La_write_21 (by decide) ?_
    exact vx_ret (W.widen (k := 4) (n := 24) (Nat.le_of_ble_eq_true rfl) (Nat.le_of_ble_eq_true rfl) (W.iret (v := nI (0)) hx hb hr (fun t ht hW => ⟨⟨_, (u, vp_updL f 0 (r.toInt64)), rfl, ⟨by rw [hR]; exact hCI9, by rw [hR], fun _ => by rw [hR]; rfl⟩, by rw [ht]; exact hP, by rw [ht]; exact hO⟩, hS.F ht⟩) hS.2.2 d_La_write_22))
set_option maxHeartbeats 4000000 in
set_option maxRecDepth 100000 in
/-- octet -/
theorem c_La_octet (l : Launch) {D : va_G} {cI cB cR cL : ClassId} {ad : Nat → Nat} {qo : Nat} (w : St) (f : Nat → Int64) (sz : Nat) (hl9 : l.stackTraces = false) (n : Int32) (A : Ab) (hCI : CI w A) : vx_Met l y_La_octet (q_La_octet :: wA) { frames := 9, cells := 1, slots := 6, locals := 170 } (va_Pc [.ref (ad 0), .int (n), .ref (qo)] (PH D cI cB cR cL ad qo w f sz)) (va_Qi (fun r u => ph (sp_octet n A) r u) (BH D cI cB cR cL ad qo) (AH ad qo sz)) FX 1 6 (AH ad qo sz) := by
  refine vx_ofWH (cc := b_La_octet) (maxL := 4) (ret := (some (.int))) (hh := [(0, 9, 12, 75)]) (by decide) rfl ?_
  intro p e s m args below meth c s₁ B hml hv
  obtain ⟨rfl, hsz, ⟨hP, hD0⟩, ⟨hO, hqo⟩, ⟨hK, hKL⟩, hKB, hTH, hNc⟩ := hv
  have hx := B.exec
  have hb := B.bytes
  have hr := B.returns
  have hts := atoms_spec (ws := q_La_octet :: wA) B.pre
  have hown : s.vm.findClass R_La = some m.cls := findClass_of_methodNamed B.named
  have hlocks := B.notSynchronized
  subst hsz
  have hl := lv_entry ([.ref (ad 0), .int (n), .ref (qo)]) (n := 4) (Nat.le_of_ble_eq_true rfl)
  rw [lg_entry_eq]
  generalize (lg_sl ([.ref (ad 0), .int (n), .ref (qo)]) ++ List.replicate (4 - (lg_sl ([.ref (ad 0), .int (n), .ref (qo)])).length) Slot.unset).toArray = ls at hl ⊢
  have hl : lv_has ls 4 [(0, .ref (ad 0)), (1, .int (n)), (2, .ref (qo))] := hl
  have hKW : KW D cI cB cR ad s := ⟨hK, hKB, hTH.1.narrow (fun q h => Or.inl h), hTH.2.narrow (fun q h => Or.inl h)⟩
  have htb := vx_table (x := y_La_octet) B (hts _ List.mem_cons_self)
  refine lv_aload_n hx hb d_La_octet_0 rfl (lv_at hl 2 rfl) ?_
  refine lv_iconst (v := nI (0)) hx hb d_La_octet_1 (by decide) ?_
  refine lv_aload_n hx hb d_La_octet_2 rfl (lv_at hl 0 rfl) ?_
  refine lv_iload_n hx hb d_La_octet_3 rfl (lv_at hl 1 rfl) ?_
  refine hC_i (As := [.int (n)]) (rest := [.int (nI (0)), .ref (qo)]) (n := 1) ⟨hx, hb, hml, hown, hts⟩ (c_Lw_octet l w _ hl9 n A hCI) (cwV0 1 hts lm_La_72 im_Lw_octet se_Lw_octet in_Lw kq_Lw_octet rfl rfl rfl (by decide +kernel) ⟨Nat.le_of_ble_eq_true rfl, Nat.le_of_ble_eq_true rfl⟩) (recvL hKW.1 hP) hKW hP hD0 hO hqo rfl hl.1 rfl (Nat.le_of_ble_eq_true rfl) d_La_octet_4 ⟨Nat.le_of_ble_eq_true rfl, Nat.le_of_ble_eq_true rfl⟩ (fun E ce q9 u H locs hp hP hO hS hcell hcv hcl => ?_) (fun r u H locs hp hP hO hS => ?_)
  · obtain ⟨A9, hCI9, hor⟩ := hp
    rcases hor with ⟨hE, hR⟩ | ⟨hE, hR⟩
    · subst hE
      refine vx_catch (own := R_La) (name := E_NS) hown [] ⟨0, 9, 12, 75⟩ [] htb (fun z hz => absurd hz List.not_mem_nil) (by decide) (by decide) (hA_ hts lc_La_75) (cs_NS hKB) hcell hcv hcl ?_
      refine lv_astore_n (lv' := [(3, .ref (q9)), (0, .ref (ad 0)), (1, .int (n)), (2, .ref (qo))]) hx hb d_La_octet_12 rfl hl (by decide) rfl (fun ls hl => ?_)
      refine lv_iconst (v := nI (1)) hx hb d_La_octet_13 (by decide) ?_
      exact vx_ret (W.widen (k := 1) (n := 6) (Nat.le_of_ble_eq_true rfl) (Nat.le_of_ble_eq_true rfl) (W.iret (v := nI (1)) hx hb hr (fun t ht hW => ⟨⟨_, (u, f), rfl, ⟨by rw [hR]; exact hCI9, by rw [hR], fun h => absurd (show (sp_octet n A).1 = 0 from h) (by rw [hR]; show ¬ (1 : Nat) = 0; decide)⟩, by rw [ht]; exact hP, by rw [ht]; exact hO⟩, hS.F ht⟩) hS.2.2 d_La_octet_14))
    · subst hE
      exfalso
      unfold sp_octet at hR
      split at hR <;> simp at hR
  · obtain ⟨A9, hCI9, hR⟩ := hp
    refine lv_i2l (v := r.toInt64) hx hb d_La_octet_7 rfl ?_
    refine hS_l hx hb hKL hP (NC_D hD0) hO hqo hS d_La_octet_8 (fun H locs hP hO hS => ?_)
    refine lv_goto (tgt := 15) hx hb d_La_octet_9 (by decide) ?_
    refine lv_iconst (v := nI (0)) hx hb d_La_octet_15 (by decide) ?_
    exact vx_ret (W.widen (k := 1) (n := 6) (Nat.le_of_ble_eq_true rfl) (Nat.le_of_ble_eq_true rfl) (W.iret (v := nI (0)) hx hb hr (fun t ht hW => ⟨⟨_, (u, vp_updL f 0 (r.toInt64)), rfl, ⟨by rw [hR]; exact hCI9, by rw [hR], fun _ => by rw [hR]; rfl⟩, by rw [ht]; exact hP, by rw [ht]; exact hO⟩, hS.F ht⟩) hS.2.2 d_La_octet_16))

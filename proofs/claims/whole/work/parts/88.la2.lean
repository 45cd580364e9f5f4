/-! THE LAW'S BODY: what it knows, its calls (rows laid by wip/whole/gen/c_la2.py) -/
abbrev AL (s : State) (q : Nat) : Prop := s.heap.size ≤ q
/-- what the law's body knows all the while -/
def LK (D : va_G) (cI cB cRc cRm cL : ClassId) (adC adM : Nat → Nat) (qo : Nat) (s : State) : Prop := (va_K D clA (tyA cI cB cRc) s) ∧ (va_K D clA (tyM cI cB cRm) s) ∧ (va_K D clA [(cL, .long)] s) ∧ (KB s) ∧ (va_Nw nestM s) ∧ (NcA s) ∧ (vx_Zq Bundle.tN "UNASSIGNED_STACK" Bundle.steD (AL s) s s.heap) ∧ (vx_Zq Bundle.tN "SUPPRESSED_SENTINEL" Bundle.listD (AL s) s s.heap) ∧ (va_D (AL s) (NC cI cB cRc adC w0C)) ∧ (va_D (AL s) (NM cI cB cRm adM w0M)) ∧ (AL s qo) ∧ (∀ i j, i < 36 → j < 42 → adC i ≠ adM j) ∧ (∀ i, i < 36 → adC i ≠ qo) ∧ (∀ j, j < 42 → adM j ≠ qo)
theorem LK.kC {D : va_G} {cI cB cRc cRm cL : ClassId} {adC adM : Nat → Nat} {qo : Nat} {s : State} (h : LK D cI cB cRc cRm cL adC adM qo s) : va_K D clA (tyA cI cB cRc) s := h.1
theorem LK.kM {D : va_G} {cI cB cRc cRm cL : ClassId} {adC adM : Nat → Nat} {qo : Nat} {s : State} (h : LK D cI cB cRc cRm cL adC adM qo s) : va_K D clA (tyM cI cB cRm) s := h.2.1
theorem LK.kL {D : va_G} {cI cB cRc cRm cL : ClassId} {adC adM : Nat → Nat} {qo : Nat} {s : State} (h : LK D cI cB cRc cRm cL adC adM qo s) : va_K D clA [(cL, .long)] s := h.2.2.1
theorem LK.kb {D : va_G} {cI cB cRc cRm cL : ClassId} {adC adM : Nat → Nat} {qo : Nat} {s : State} (h : LK D cI cB cRc cRm cL adC adM qo s) : KB s := h.2.2.2.1
theorem LK.kn {D : va_G} {cI cB cRc cRm cL : ClassId} {adC adM : Nat → Nat} {qo : Nat} {s : State} (h : LK D cI cB cRc cRm cL adC adM qo s) : va_Nw nestM s := h.2.2.2.2.1
theorem LK.nc {D : va_G} {cI cB cRc cRm cL : ClassId} {adC adM : Nat → Nat} {qo : Nat} {s : State} (h : LK D cI cB cRc cRm cL adC adM qo s) : NcA s := h.2.2.2.2.2.1
theorem LK.z1 {D : va_G} {cI cB cRc cRm cL : ClassId} {adC adM : Nat → Nat} {qo : Nat} {s : State} (h : LK D cI cB cRc cRm cL adC adM qo s) : vx_Zq Bundle.tN "UNASSIGNED_STACK" Bundle.steD (AL s) s s.heap := h.2.2.2.2.2.2.1
theorem LK.z2 {D : va_G} {cI cB cRc cRm cL : ClassId} {adC adM : Nat → Nat} {qo : Nat} {s : State} (h : LK D cI cB cRc cRm cL adC adM qo s) : vx_Zq Bundle.tN "SUPPRESSED_SENTINEL" Bundle.listD (AL s) s s.heap := h.2.2.2.2.2.2.2.1
theorem LK.dC {D : va_G} {cI cB cRc cRm cL : ClassId} {adC adM : Nat → Nat} {qo : Nat} {s : State} (h : LK D cI cB cRc cRm cL adC adM qo s) : va_D (AL s) (NC cI cB cRc adC w0C) := h.2.2.2.2.2.2.2.2.1
theorem LK.dM {D : va_G} {cI cB cRc cRm cL : ClassId} {adC adM : Nat → Nat} {qo : Nat} {s : State} (h : LK D cI cB cRc cRm cL adC adM qo s) : va_D (AL s) (NM cI cB cRm adM w0M) := h.2.2.2.2.2.2.2.2.2.1
theorem LK.dO {D : va_G} {cI cB cRc cRm cL : ClassId} {adC adM : Nat → Nat} {qo : Nat} {s : State} (h : LK D cI cB cRc cRm cL adC adM qo s) : AL s qo := h.2.2.2.2.2.2.2.2.2.2.1
theorem LK.cm {D : va_G} {cI cB cRc cRm cL : ClassId} {adC adM : Nat → Nat} {qo : Nat} {s : State} (h : LK D cI cB cRc cRm cL adC adM qo s) : ∀ i j, i < 36 → j < 42 → adC i ≠ adM j := h.2.2.2.2.2.2.2.2.2.2.2.1
theorem LK.co {D : va_G} {cI cB cRc cRm cL : ClassId} {adC adM : Nat → Nat} {qo : Nat} {s : State} (h : LK D cI cB cRc cRm cL adC adM qo s) : ∀ i, i < 36 → adC i ≠ qo := h.2.2.2.2.2.2.2.2.2.2.2.2.1
theorem LK.mo {D : va_G} {cI cB cRc cRm cL : ClassId} {adC adM : Nat → Nat} {qo : Nat} {s : State} (h : LK D cI cB cRc cRm cL adC adM qo s) : ∀ j, j < 42 → adM j ≠ qo := h.2.2.2.2.2.2.2.2.2.2.2.2.2
theorem NcA.moved {u U : State} (h : u.vm.Alike U.vm) (q : NcA u) : NcA U := ⟨q.1.moved h, q.2.1.moved h, q.2.2.moved h⟩
theorem NcA.call {U : State} (q : NcA U) {V : State} (h : U.vm = V.vm) : NcA V := q.moved (by rw [h]; exact Vm.Alike.refl _)
theorem PH_blind {D : va_G} {cI cB cR cL : ClassId} {ad : Nat → Nat} {qo : Nat} {w : St} {f : Nat → Int64} {av : List Value} {sz : Nat} : FrameBlind (va_Pc av (PH D cI cB cR cL ad qo w f sz)) := by
  intro a U g mk q
  obtain ⟨q0, q1, q2, q3, ⟨q4, q5⟩, q6, q7, q8⟩ := q
  exact ⟨q0, q1, q2, q3, ⟨va_K.moved (u := U) (U := U.calling g mk a) (Vm.Alike.refl U.vm) q4, va_K.moved (u := U) (U := U.calling g mk a) (Vm.Alike.refl U.vm) q5⟩, KB.same (s := U) (U := U.calling g mk a) rfl q6, ⟨vx_Zq.moved (Vm.Alike.refl U.vm) q7.1, vx_Zq.moved (Vm.Alike.refl U.vm) q7.2⟩, q8.call (V := U.calling g mk a) rfl⟩
theorem PMN_blind {D : va_G} {cI cB cR : ClassId} {ad : Nat → Nat} {w : Mt} {av : List Value} {sz : Nat} : FrameBlind (va_Pc av (PMN D cI cB cR ad w sz)) := by
  intro a U g mk q
  obtain ⟨q0, q1, q2⟩ := q
  have h := PM_blind (av := av) (D := D) (cI := cI) (cB := cB) (cR := cR) (ad := ad) (w := w) (sz := sz) a U g mk ⟨q0, q1⟩
  exact ⟨h.1, h.2, q2.call (V := U.calling g mk a) rfl⟩
section LB
variable {p : Program} {l : Launch} {e : Env} {R : Room} {s : State} {m : MethodId} {args : Array Value} {below : List Frame} {meth : Method} {c : Code} {H : Heap} {locs : List Loc} {cells slots mc ms : Nat} {Q : State → Prop}
variable {cc bytes : ByteArray} {pc nL maxL index n : Nat} {ls : Array Slot} {rest As st0 : List Value} {D : va_G} {cI cB cRc cRm cL : ClassId} {adC adM : Nat → Nat} {qo : Nat} {f : Nat → Int64} {w : St} {u0 : Mt} {c0 c2 : Cond} {y : MethodName} {ret : Option FieldType} {rm : Room} {hh : List (Nat × Nat × Nat × Nat)} {A0 A1 : Nat → Prop} {a : Array Value} {free : Addr → Prop} {H0 : Heap} {C own : String} {b : Addr}
theorem LK.aH (K : LK D cI cB cRc cRm cL adC adM qo s) {sz : Nat} (h : s.heap.size ≤ sz) {q : Nat} (hq : AH adC qo sz q) : AL s q := by
  rcases hq with (⟨k, h1, h2⟩ | h1) | h1
  · have := K.dC.2 k _ (NC_at h1)
    rw [h2]
    exact this
  · exact Nat.le_trans h h1
  · rw [h1]
    exact K.dO
theorem LK.aM (K : LK D cI cB cRc cRm cL adC adM qo s) {sz : Nat} (h : s.heap.size ≤ sz) {q : Nat} (hq : AM adM sz q) : AL s q := by
  rcases hq with ⟨k, h1, h2⟩ | h1
  · have := K.dM.2 k _ (NM_at h1)
    rw [h2]
    exact this
  · exact Nat.le_trans h h1
theorem LK.tab (K : LK D cI cB cRc cRm cL adC adM qo s) (hS : va_S (AL s) s.heap H locs) {B : Nat → Prop} (hB : ∀ q, B q → AL s q) {U : State} (hU : U.heap = H) (hW : s.WarmedH U.vm) : vx_Zq Bundle.tN "UNASSIGNED_STACK" Bundle.steD B U U.heap ∧ vx_Zq Bundle.tN "SUPPRESSED_SENTINEL" Bundle.listD B U U.heap := by
  rw [hU]
  exact ⟨vx_Zq.moved hW.alike ((K.z1.kept hS.2.1).narrow hB), vx_Zq.moved hW.alike ((K.z2.kept hS.2.1).narrow hB)⟩
theorem LK.pH (K : LK D cI cB cRc cRm cL adC adM qo s) (hC : va_P D clA (NC cI cB cRc adC w) H) (hO : va_P D clA (OC cL qo f) H) (hS : va_S (AL s) s.heap H locs) : ∀ U : State, U.heap = H → s.WarmedH U.vm → PH D cI cB cRc cL adC qo w f H.size U := by
  intro U hU hW
  refine ⟨by rw [hU], ⟨by rw [hU]; exact hC, ⟨(NC_D K.dC).1, fun _ _ _ => trivial⟩⟩, ⟨by rw [hU]; exact hO, K.co⟩, ⟨va_K.moved hW.alike K.kC, va_K.moved hW.alike K.kL⟩, KB.warm hW K.kb, ?_, K.nc.moved hW.alike⟩
  exact K.tab hS (fun q hq => K.aH (by rw [hU]; exact hS.1) hq) hU hW
theorem LK.pM (K : LK D cI cB cRc cRm cL adC adM qo s) (hM : va_P D clA (NM cI cB cRm adM u0) H) (hS : va_S (AL s) s.heap H locs) : ∀ U : State, U.heap = H → s.WarmedH U.vm → PM D cI cB cRm adM u0 H.size U := by
  intro U hU hW
  refine ⟨by rw [hU], by rw [hU]; exact hM, ⟨(NM_D K.dM).1, fun _ _ _ => trivial⟩, va_K.moved hW.alike K.kM, ⟨KB.warm hW K.kb, va_Nw.warmM hW K.kn⟩, ?_⟩
  exact K.tab hS (fun q hq => K.aM (by rw [hU]; exact hS.1) hq) hU hW
theorem LK.keepM (K : LK D cI cB cRc cRm cL adC adM qo s) (hM : va_P D clA (NM cI cB cRm adM u0) H) {H1 : Heap} (hk : ∀ q : Nat, q < H.size → ¬ AH adC qo H.size q → H1[q]? = H[q]?) : va_P D clA (NM cI cB cRm adM u0) H1 := by
  refine hM.kept (fun k q hq => ?_)
  have hlt := (hM k q hq).lt
  have hl : k < 42 := by
    have := (List.getElem?_eq_some_iff.mp hq).1
    rw [NM_len] at this
    exact this
  rw [NM_at hl] at hq
  cases hq
  refine hk _ hlt (fun h => ?_)
  rcases h with (⟨i, h1, h2⟩ | h1) | h1
  · exact K.cm i k h1 hl h2.symm
  · exact absurd hlt (Nat.not_lt.mpr h1)
  · exact K.mo k hl h1
theorem LK.keepC (K : LK D cI cB cRc cRm cL adC adM qo s) (hC : va_P D clA (NC cI cB cRc adC w) H) {H1 : Heap} (hk : ∀ q : Nat, q < H.size → ¬ AM adM H.size q → H1[q]? = H[q]?) : va_P D clA (NC cI cB cRc adC w) H1 := by
  refine hC.kept (fun k q hq => ?_)
  have hlt := (hC k q hq).lt
  have hl : k < 36 := by
    have := (List.getElem?_eq_some_iff.mp hq).1
    rw [NC_len] at this
    exact this
  rw [NC_at hl] at hq
  cases hq
  refine hk _ hlt (fun h => ?_)
  rcases h with ⟨j, h1, h2⟩ | h1
  · exact K.cm k j hl h1 h2
  · exact absurd hlt (Nat.not_lt.mpr h1)
theorem LK.keepO (K : LK D cI cB cRc cRm cL adC adM qo s) (hO : va_P D clA (OC cL qo f) H) {H1 : Heap} (hk : ∀ q : Nat, q < H.size → ¬ AM adM H.size q → H1[q]? = H[q]?) : va_P D clA (OC cL qo f) H1 := by
  have hlt : qo < H.size := (hO 0 _ rfl).lt
  refine hO.kept (fun k q hq => ?_)
  have hz : k < 1 := (List.getElem?_eq_some_iff.mp hq).1
  rw [show k = 0 by omega] at hq
  cases hq
  refine hk qo hlt (fun h => ?_)
  rcases h with ⟨j, h1, h2⟩ | h1
  · exact K.mo j h1 h2.symm
  · exact absurd hlt (Nat.not_lt.mpr h1)
theorem vf_v {S : Type} {post : S → Prop} {B : S → State → Prop} (hr : vx_Run p l e R s m args below meth c H locs cells slots mc ms (F0 m pc ls st0) rest (va_Qv post B A1 a) FX free) (hS : va_S A0 H0 H locs) (hA : ∀ q, q < H.size → A1 q → A0 q) (hf : ∀ q, free q → A0 q)
    (kk : ∀ (u : S) (t : State) (H1 : Heap) (locs1 : List Loc), t.heap = H1 → post u → B u t → (∀ q : Nat, q < H.size → ¬ A1 q → H1[q]? = H[q]?) → va_S A0 H0 H1 locs1 → W p l e R s m args below meth c H1 locs1 (cells + mc) (slots + ms) Q (F0 m (pc + 3) ls (rest))) : W p l e R s m args below meth c H locs cells slots Q (F0 m pc ls st0) := by
  intro T hT X
  rcases hr T hT X with ⟨v, st₀, t, T', L, h0, X', hL, e1, e2, ⟨⟨u, hv, hp, hb⟩, hF⟩, st⟩ | ⟨q, st₀, t, T', L, E, ce, h0, X', hL, e1, e2, hx, hce, hcv, hcl, st⟩
  · cases hv
    obtain ⟨k1, k2, k3⟩ := vx_keep h0 e1 hS hA hf hL hF
    obtain ⟨t2, a1, b1⟩ := kk u t T'.heap (locs ++ L) e1.symm hp hb k2 k3 T' rfl X'
    exact ⟨t2, st t2 a1, b1⟩
  · exact False.elim hx
theorem vf_i {S : Type} {post : Int32 → S → Prop} {B : S → State → Prop} (hr : vx_Run p l e R s m args below meth c H locs cells slots mc ms (F0 m pc ls st0) rest (va_Qi post B A1 a) FX free) (hS : va_S A0 H0 H locs) (hA : ∀ q, q < H.size → A1 q → A0 q) (hf : ∀ q, free q → A0 q)
    (kk : ∀ (r : Int32) (u : S) (t : State) (H1 : Heap) (locs1 : List Loc), t.heap = H1 → post r u → B u t → (∀ q : Nat, q < H.size → ¬ A1 q → H1[q]? = H[q]?) → va_S A0 H0 H1 locs1 → W p l e R s m args below meth c H1 locs1 (cells + mc) (slots + ms) Q (F0 m (pc + 3) ls (.int r :: rest))) : W p l e R s m args below meth c H locs cells slots Q (F0 m pc ls st0) := by
  intro T hT X
  rcases hr T hT X with ⟨v, st₀, t, T', L, h0, X', hL, e1, e2, ⟨⟨r, u, hv, hp, hb⟩, hF⟩, st⟩ | ⟨q, st₀, t, T', L, E, ce, h0, X', hL, e1, e2, hx, hce, hcv, hcl, st⟩
  · cases hv
    obtain ⟨k1, k2, k3⟩ := vx_keep h0 e1 hS hA hf hL hF
    obtain ⟨t2, a1, b1⟩ := kk r u t T'.heap (locs ++ L) e1.symm hp hb k2 k3 T' rfl X'
    exact ⟨t2, st t2 a1, b1⟩
  · exact False.elim hx
theorem vf_l {S : Type} {post : Int64 → S → Prop} {B : S → State → Prop} (hr : vx_Run p l e R s m args below meth c H locs cells slots mc ms (F0 m pc ls st0) rest (va_Ql post B A1 a) FX free) (hS : va_S A0 H0 H locs) (hA : ∀ q, q < H.size → A1 q → A0 q) (hf : ∀ q, free q → A0 q)
    (kk : ∀ (r : Int64) (u : S) (t : State) (H1 : Heap) (locs1 : List Loc), t.heap = H1 → post r u → B u t → (∀ q : Nat, q < H.size → ¬ A1 q → H1[q]? = H[q]?) → va_S A0 H0 H1 locs1 → W p l e R s m args below meth c H1 locs1 (cells + mc) (slots + ms) Q (F0 m (pc + 3) ls (.long r :: rest))) : W p l e R s m args below meth c H locs cells slots Q (F0 m pc ls st0) := by
  intro T hT X
  rcases hr T hT X with ⟨v, st₀, t, T', L, h0, X', hL, e1, e2, ⟨⟨r, u, hv, hp, hb⟩, hF⟩, st⟩ | ⟨q, st₀, t, T', L, E, ce, h0, X', hL, e1, e2, hx, hce, hcv, hcl, st⟩
  · cases hv
    obtain ⟨k1, k2, k3⟩ := vx_keep h0 e1 hS hA hf hL hF
    obtain ⟨t2, a1, b1⟩ := kk r u t T'.heap (locs ++ L) e1.symm hp hb k2 k3 T' rfl X'
    exact ⟨t2, st t2 a1, b1⟩
  · exact False.elim hx
/-- a helper of the law -/
theorem lb_H {post : Int32 → St × (Nat → Int64) → Prop} (S : CallFix p m c cc nL s args (c0 :: wA) own) (K : LK D cI cB cRc cRm cL adC adM qo s) (hM : vx_Met l y (c2 :: wA) rm (va_Pc As (PH D cI cB cRc cL adC qo w f H.size)) (va_Qi post (BH D cI cB cRc cL adC qo) (AH adC qo H.size)) FX mc ms (AH adC qo H.size)) (cw : vx_CSW R s args own index y bytes maxL ret hh (c2 :: wA) rm mc ms n) (hC : va_P D clA (NC cI cB cRc adC w) H) (hMm : va_P D clA (NM cI cB cRm adM u0) H) (hO : va_P D clA (OC cL qo f) H) (hS : va_S (AL s) s.heap H locs) (hn : As.length = n) (hsize : ls.size = nL) (hstack : st0 = As.reverse ++ rest) (hW : (rest.map fun v => v.category).sum ≤ 8) (hdg : decode cc pc = .ok (.invokestatic index, 3)) (hf : cells + mc ≤ R.cells ∧ slots + ms ≤ R.slots)
    (kk : ∀ (r : Int32) (w1 : St) (f1 : Nat → Int64) (H1 : Heap) (locs1 : List Loc), post r (w1, f1) → va_P D clA (NC cI cB cRc adC w1) H1 → va_P D clA (NM cI cB cRm adM u0) H1 → va_P D clA (OC cL qo f1) H1 → va_S (AL s) s.heap H1 locs1 → W p l e R s m args below meth c H1 locs1 (cells + mc) (slots + ms) Q (F0 m (pc + 3) ls (.int r :: rest))) : W p l e R s m args below meth c H locs cells slots Q (F0 m pc ls st0) :=
  vf_i (vx_runSX (g := F0 m pc ls st0) S hM cw ⟨PH_blind, fun U h1 h2 => ⟨rfl, K.pH hC hO hS U h1 h2⟩⟩ rfl hn hsize hstack (by show 2 * 0 + _ ≤ _; omega) hdg hf) hS (fun q _ h => K.aH hS.1 h) (fun q h => K.aH hS.1 h)
    (fun r u t H1 locs1 e1 hp hb hk hS1 => kk r u.1 u.2 H1 locs1 hp (by rw [← e1]; exact hb.1) (K.keepM hMm hk) (by rw [← e1]; exact hb.2) hS1)
theorem lb_Mv {post : Mt → Prop} (S : CallFix p m c cc nL s args (c0 :: wA) own) (K : LK D cI cB cRc cRm cL adC adM qo s) (hM : vx_Met l y (c2 :: wA) rm (va_Pc (.ref b :: As) (PMN D cI cB cRm adM u0 H.size)) (va_Qv post (BM D cI cB cRm adM) (AM adM H.size)) FX mc ms (AM adM H.size)) (cw : vx_CVW R s args own C index y bytes maxL ret hh (c2 :: wA) rm mc ms n) (hrecv : ∃ cellB : Cell, H[b]? = some cellB ∧ cellB.vm.isStatics = false ∧ s.vm.findClass C = some cellB.cls) (hC : va_P D clA (NC cI cB cRc adC w) H) (hMm : va_P D clA (NM cI cB cRm adM u0) H) (hO : va_P D clA (OC cL qo f) H) (hS : va_S (AL s) s.heap H locs) (hn : As.length = n) (hsize : ls.size = nL) (hstack : st0 = As.reverse ++ .ref b :: rest) (hW : (rest.map fun v => v.category).sum ≤ 8) (hdg : decode cc pc = .ok (.invokevirtual index, 3)) (hf : cells + mc ≤ R.cells ∧ slots + ms ≤ R.slots)
    (kk : ∀ (u1 : Mt) (H1 : Heap) (locs1 : List Loc), post u1 → va_P D clA (NC cI cB cRc adC w) H1 → va_P D clA (NM cI cB cRm adM u1) H1 → va_P D clA (OC cL qo f) H1 → va_S (AL s) s.heap H1 locs1 → W p l e R s m args below meth c H1 locs1 (cells + mc) (slots + ms) Q (F0 m (pc + 3) ls (rest))) : W p l e R s m args below meth c H locs cells slots Q (F0 m pc ls st0) :=
  vf_v (vx_runVX (g := F0 m pc ls st0) S hM cw ⟨PMN_blind, hrecv, fun U h1 h2 => ⟨rfl, K.pM hMm hS U h1 h2, K.nc.moved h2.alike⟩⟩ rfl hn hsize hstack (by show 2 * 0 + _ ≤ _; omega) hdg hf) hS (fun q _ h => K.aM hS.1 h) (fun q h => K.aM hS.1 h)
    (fun u t H1 locs1 e1 hp hb hk hS1 => kk u H1 locs1 hp (K.keepC hC hk) (by rw [← e1]; exact hb) (K.keepO hO hk) hS1)
theorem lb_Mi {post : Int32 → Mt → Prop} (S : CallFix p m c cc nL s args (c0 :: wA) own) (K : LK D cI cB cRc cRm cL adC adM qo s) (hM : vx_Met l y (c2 :: wA) rm (va_Pc (.ref b :: As) (PMN D cI cB cRm adM u0 H.size)) (va_Qi post (BM D cI cB cRm adM) (AM adM H.size)) FX mc ms (AM adM H.size)) (cw : vx_CVW R s args own C index y bytes maxL ret hh (c2 :: wA) rm mc ms n) (hrecv : ∃ cellB : Cell, H[b]? = some cellB ∧ cellB.vm.isStatics = false ∧ s.vm.findClass C = some cellB.cls) (hC : va_P D clA (NC cI cB cRc adC w) H) (hMm : va_P D clA (NM cI cB cRm adM u0) H) (hO : va_P D clA (OC cL qo f) H) (hS : va_S (AL s) s.heap H locs) (hn : As.length = n) (hsize : ls.size = nL) (hstack : st0 = As.reverse ++ .ref b :: rest) (hW : (rest.map fun v => v.category).sum ≤ 8) (hdg : decode cc pc = .ok (.invokevirtual index, 3)) (hf : cells + mc ≤ R.cells ∧ slots + ms ≤ R.slots)
    (kk : ∀ (r : Int32) (u1 : Mt) (H1 : Heap) (locs1 : List Loc), post r u1 → va_P D clA (NC cI cB cRc adC w) H1 → va_P D clA (NM cI cB cRm adM u1) H1 → va_P D clA (OC cL qo f) H1 → va_S (AL s) s.heap H1 locs1 → W p l e R s m args below meth c H1 locs1 (cells + mc) (slots + ms) Q (F0 m (pc + 3) ls (.int r :: rest))) : W p l e R s m args below meth c H locs cells slots Q (F0 m pc ls st0) :=
  vf_i (vx_runVX (g := F0 m pc ls st0) S hM cw ⟨PMN_blind, hrecv, fun U h1 h2 => ⟨rfl, K.pM hMm hS U h1 h2, K.nc.moved h2.alike⟩⟩ rfl hn hsize hstack (by show 2 * 0 + _ ≤ _; omega) hdg hf) hS (fun q _ h => K.aM hS.1 h) (fun q h => K.aM hS.1 h)
    (fun r u t H1 locs1 e1 hp hb hk hS1 => kk r u H1 locs1 hp (K.keepC hC hk) (by rw [← e1]; exact hb) (K.keepO hO hk) hS1)
theorem lb_Ml {post : Int64 → Mt → Prop} (S : CallFix p m c cc nL s args (c0 :: wA) own) (K : LK D cI cB cRc cRm cL adC adM qo s) (hM : vx_Met l y (c2 :: wA) rm (va_Pc (.ref b :: As) (PMN D cI cB cRm adM u0 H.size)) (va_Ql post (BM D cI cB cRm adM) (AM adM H.size)) FX mc ms (AM adM H.size)) (cw : vx_CVW R s args own C index y bytes maxL ret hh (c2 :: wA) rm mc ms n) (hrecv : ∃ cellB : Cell, H[b]? = some cellB ∧ cellB.vm.isStatics = false ∧ s.vm.findClass C = some cellB.cls) (hC : va_P D clA (NC cI cB cRc adC w) H) (hMm : va_P D clA (NM cI cB cRm adM u0) H) (hO : va_P D clA (OC cL qo f) H) (hS : va_S (AL s) s.heap H locs) (hn : As.length = n) (hsize : ls.size = nL) (hstack : st0 = As.reverse ++ .ref b :: rest) (hW : (rest.map fun v => v.category).sum ≤ 8) (hdg : decode cc pc = .ok (.invokevirtual index, 3)) (hf : cells + mc ≤ R.cells ∧ slots + ms ≤ R.slots)
    (kk : ∀ (r : Int64) (u1 : Mt) (H1 : Heap) (locs1 : List Loc), post r u1 → va_P D clA (NC cI cB cRc adC w) H1 → va_P D clA (NM cI cB cRm adM u1) H1 → va_P D clA (OC cL qo f) H1 → va_S (AL s) s.heap H1 locs1 → W p l e R s m args below meth c H1 locs1 (cells + mc) (slots + ms) Q (F0 m (pc + 3) ls (.long r :: rest))) : W p l e R s m args below meth c H locs cells slots Q (F0 m pc ls st0) :=
  vf_l (vx_runVX (g := F0 m pc ls st0) S hM cw ⟨PMN_blind, hrecv, fun U h1 h2 => ⟨rfl, K.pM hMm hS U h1 h2, K.nc.moved h2.alike⟩⟩ rfl hn hsize hstack (by show 2 * 0 + _ ≤ _; omega) hdg hf) hS (fun q _ h => K.aM hS.1 h) (fun q h => K.aM hS.1 h)
    (fun r u t H1 locs1 e1 hp hb hk hS1 => kk r u H1 locs1 hp (K.keepC hC hk) (by rw [← e1]; exact hb) (K.keepO hO hk) hS1)
theorem lb_T {post : Int32 → Mt → Prop} (S : CallFix p m c cc nL s args (c0 :: wA) own) (K : LK D cI cB cRc cRm cL adC adM qo s) (hM : Met l y (c2 :: wA) rm (va_Pc (.ref b :: As) (PM D cI cB cRm adM u0 H.size)) (va_Qi post (BM D cI cB cRm adM) (AM adM H.size)) mc ms (AM adM H.size)) (cw : CallW R s args own C index y bytes maxL ret (c2 :: wA) rm mc ms n) (hrecv : ∃ cellB : Cell, H[b]? = some cellB ∧ cellB.vm.isStatics = false ∧ s.vm.findClass C = some cellB.cls) (hC : va_P D clA (NC cI cB cRc adC w) H) (hMm : va_P D clA (NM cI cB cRm adM u0) H) (hO : va_P D clA (OC cL qo f) H) (hS : va_S (AL s) s.heap H locs) (hn : As.length = n) (hsize : ls.size = nL) (hstack : st0 = As.reverse ++ .ref b :: rest) (hW : (rest.map fun v => v.category).sum ≤ 8) (hdg : decode cc pc = .ok (.invokevirtual index, 3)) (hf : cells + mc ≤ R.cells ∧ slots + ms ≤ R.slots)
    (kk : ∀ (r : Int32) (u1 : Mt) (H1 : Heap) (locs1 : List Loc), post r u1 → va_P D clA (NC cI cB cRc adC w) H1 → va_P D clA (NM cI cB cRm adM u1) H1 → va_P D clA (OC cL qo f) H1 → va_S (AL s) s.heap H1 locs1 → W p l e R s m args below meth c H1 locs1 (cells + mc) (slots + ms) Q (F0 m (pc + 3) ls (.int r :: rest))) : W p l e R s m args below meth c H locs cells slots Q (F0 m pc ls st0) :=
  va_calli (va_runV (g := F0 m pc ls st0) S hM cw ⟨PM_blind, hrecv, fun U h1 h2 => ⟨rfl, K.pM hMm hS U h1 h2⟩⟩ rfl hn hsize hstack (by show 2 * 0 + _ ≤ _; omega) hdg hf) hS (fun q _ h => K.aM hS.1 h) (fun q h => K.aM hS.1 h)
    (fun r u t H1 locs1 e1 _ hp hb _ hk hS1 => kk r u H1 locs1 hp (K.keepC hC hk) (by rw [← e1]; exact hb) (K.keepO hO hk) hS1)
theorem lb_ld (hexec : p.tables.exec = Jvm.exec) (hb : c.code = cc) (K : LK D cI cB cRc cRm cL adC adM qo s) (hO : va_P D clA (OC cL qo f) H) {v : Int64} (hv : f 0 = v) (hdg : decode cc pc = .ok (.laload, 1))
    (kk : W p l e R s m args below meth c H locs cells slots Q (F0 m (pc + 1) ls (.long v :: rest))) : W p l e R s m args below meth c H locs cells slots Q (F0 m pc ls (.int (nI 0) :: .ref qo :: rest)) := by
  subst hv
  refine va_lald hexec hb K.kL hO 0 0 rfl rfl (vp_in_nI (n := 0) (N := 1) (by decide) (by decide)) hdg ?_
  rw [nI_clamp (by decide)]
  exact kk
theorem lb_sc (hexec : p.tables.exec = Jvm.exec) (hb : c.code = cc) {b L : Nat} {xs : Nat → Int32} (hX : va_X b L xs s s.heap) (hbl : b < s.heap.size) (hS : va_S (AL s) s.heap H locs) {j : Nat} (hj : j < L) (hL : L ≤ 3072) {v : Int32} (hv : xs j = v) (hdg : decode cc pc = .ok (.iaload, 1))
    (kk : W p l e R s m args below meth c H locs cells slots Q (F0 m (pc + 1) ls (.int v :: rest))) : W p l e R s m args below meth c H locs cells slots Q (F0 m pc ls (.int (nI j) :: .ref b :: rest)) := by
  subst hv
  refine va_sld hexec hb hX hbl (Nat.not_le.mpr hbl) hS (vp_in_nI hj (by omega)) hdg ?_
  rw [nI_clamp (by omega)]
  exact kk
end LB

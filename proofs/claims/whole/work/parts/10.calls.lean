/-! CALLS IN THE WORLD: what a method of the class starts from and leaves; the call of one -/
/-- words that no callee takes over by itself: links of nest mates, what an exception can be cast to, what its superclasses declare -/
def wB : List Cond := [.methodLinkNest "LimbWorks$Natural" 19 y_Lw_bitsOf "LimbWorks", .methodLinkNest "LimbWorks$Bench" 46 y_Lw_bitsOf "LimbWorks", .methodLinkNest "LimbWorks$Roots" 65 y_Lw_bitsOf "LimbWorks",
  .castable "java/lang/IllegalArgumentException" "java/lang/IllegalArgumentException", .castable "java/lang/IllegalStateException" "java/lang/IllegalStateException", .castable "java/lang/ArithmeticException" "java/lang/ArithmeticException", .castable "java/lang/UnsupportedOperationException" "java/lang/UnsupportedOperationException", .castable "java/util/NoSuchElementException" "java/util/NoSuchElementException",
  .declares ⟨"java/lang/RuntimeException", "<init>", "()V"⟩, .declares ⟨"java/lang/Exception", "<init>", "()V"⟩, .declares ⟨"java/lang/Throwable", "<init>", "()V"⟩]
def KB (U : State) : Prop := ∀ w ∈ wB, va_Nw w U
theorem KB.warm {s U : State} (hW : s.WarmedH U.vm) (h : KB s) : KB U := by
  have h' : ∀ w ∈ wB, va_Nw w s := h
  intro w hw
  have h1 := h' w hw
  simp only [wB, List.mem_cons, List.not_mem_nil, or_false] at hw
  rcases hw with e | e | e | e | e | e | e | e | e | e | e <;> subst e
  · exact va_Nw.warmM hW h1
  · exact va_Nw.warmM hW h1
  · exact va_Nw.warmM hW h1
  · exact va_Nw.warmC hW h1
  · exact va_Nw.warmC hW h1
  · exact va_Nw.warmC hW h1
  · exact va_Nw.warmC hW h1
  · exact va_Nw.warmC hW h1
  · exact va_Nw.warmD hW h1
  · exact va_Nw.warmD hW h1
  · exact va_Nw.warmD hW h1
theorem KB.same {s U : State} (hv : s.vm = U.vm) (h : KB s) : KB U := by
  have h' : ∀ w ∈ wB, va_Nw w s := h
  intro w hw
  have h1 := h' w hw
  simp only [wB, List.mem_cons, List.not_mem_nil, or_false] at hw
  rcases hw with e | e | e | e | e | e | e | e | e | e | e <;> subst e <;> exact va_Nw.same rfl hv h1
/-- the cells that the class's methods may change: the world's, and new ones -/
def AA (ad : Nat → Nat) (sz : Nat) (q : Nat) : Prop := (∃ k, k < 36 ∧ q = ad k) ∨ sz ≤ q
theorem AA.mono {ad : Nat → Nat} {a b : Nat} (h : a ≤ b) {q : Nat} (hq : AA ad b q) : AA ad a q := by
  rcases hq with q | q
  · exact Or.inl q
  · exact Or.inr (Nat.le_trans h q)
/-- Throwable's two statics -/
def TB (ad : Nat → Nat) (U : State) : Prop := vx_Zq Bundle.tN "UNASSIGNED_STACK" Bundle.steD (AA ad U.heap.size) U U.heap ∧ vx_Zq Bundle.tN "SUPPRESSED_SENTINEL" Bundle.listD (AA ad U.heap.size) U U.heap
def KW (D : va_G) (cI cB cR : ClassId) (ad : Nat → Nat) (U : State) : Prop := va_K D clA (tyA cI cB cR) U ∧ KB U ∧ TB ad U
/-- where a method of the class starts from: the world w -/
def PW (D : va_G) (cI cB cR : ClassId) (ad : Nat → Nat) (w : St) (sz : Nat) (U : State) : Prop := U.heap.size = sz ∧ va_P D clA (NC cI cB cR ad w) U.heap ∧ va_D (fun _ => True) (NC cI cB cR ad w) ∧ KW D cI cB cR ad U
def BW (D : va_G) (cI cB cR : ClassId) (ad : Nat → Nat) (w : St) (t : State) : Prop := va_P D clA (NC cI cB cR ad w) t.heap
section PWs
variable {D : va_G} {cI cB cR : ClassId} {ad : Nat → Nat} {w w' : St} {A B : Nat → Prop}
theorem NC_D (h : va_D A (NC cI cB cR ad w)) : va_D A (NC cI cB cR ad w') := by
  have key : ∀ (i : Nat) (q : Nat × va_E), (NC cI cB cR ad w')[i]? = some q → ∃ q', (NC cI cB cR ad w)[i]? = some q' ∧ q'.1 = q.1 := by
    intro i q hq
    have hl : i < 36 := by
      have := (List.getElem?_eq_some_iff.mp hq).1
      rw [NC_len] at this
      exact this
    rw [NC_at hl] at hq
    exact ⟨_, NC_at hl, by rw [← Option.some.inj hq]⟩
  refine ⟨fun i j x y hx hy hxy => ?_, fun k q hq => ?_⟩
  · obtain ⟨x', h1, h2⟩ := key i x hx
    obtain ⟨y', h3, h4⟩ := key j y hy
    exact h.1 i j x' y' h1 h3 (by rw [h2, h4, hxy])
  · obtain ⟨q', h1, h2⟩ := key k q hq
    rw [← h2]
    exact h.2 k q' h1
theorem NC_AA {sz : Nat} (h : va_D A (NC cI cB cR ad w)) : va_D (AA ad sz) (NC cI cB cR ad w) := by
  refine ⟨h.1, fun k q hq => ?_⟩
  have hl : k < 36 := by
    have := (List.getElem?_eq_some_iff.mp hq).1
    rw [NC_len] at this
    exact this
  rw [NC_at hl] at hq
  exact Or.inl ⟨k, hl, by rw [← Option.some.inj hq]⟩
theorem PW_blind {av : List Value} {sz : Nat} : FrameBlind (va_Pc av (PW D cI cB cR ad w sz)) := by
  intro a U g mk q
  obtain ⟨q0, q1, q2, q3, q4, q5, q6⟩ := q
  exact ⟨q0, q1, q2, q3, va_K.moved (u := U) (U := U.calling g mk a) (Vm.Alike.refl U.vm) q4, KB.same (s := U) (U := U.calling g mk a) rfl q5, vx_Zq.moved (Vm.Alike.refl U.vm) q6.1, vx_Zq.moved (Vm.Alike.refl U.vm) q6.2⟩
theorem PW_pre {s : State} {H : Heap} {locs : List Loc} (hKW : KW D cI cB cR ad s) (hP : va_P D clA (NC cI cB cR ad w) H) (hD : va_D (AA ad s.heap.size) (NC cI cB cR ad w)) (hS : va_S (AA ad s.heap.size) s.heap H locs) :
    ∀ U : State, U.heap = H → s.WarmedH U.vm → PW D cI cB cR ad w H.size U := by
  intro U hU hW
  have hm : ∀ q, AA ad U.heap.size q → AA ad s.heap.size q := fun q h => AA.mono (by rw [hU]; exact hS.1) h
  refine ⟨by rw [hU], by rw [hU]; exact hP, ⟨hD.1, fun _ _ _ => trivial⟩, va_K.moved hW.alike hKW.1, KB.warm hW hKW.2.1, ?_, ?_⟩
  · have := ((hKW.2.2.1.kept hS.2.1).narrow hm)
    rw [hU]
    rw [hU] at this
    exact vx_Zq.moved hW.alike this
  · have := ((hKW.2.2.2.kept hS.2.1).narrow hm)
    rw [hU]
    rw [hU] at this
    exact vx_Zq.moved hW.alike this
end PWs
section PWc
variable {p : Program} {l : Launch} {e : Env} {R : Room} {s : State} {m : MethodId} {args : Array Value} {below : List Frame} {meth : Method} {c : Code} {H : Heap} {locs : List Loc} {cells slots : Nat} {Q : State → Prop}
variable {cc bytes : ByteArray} {pc nL maxL index n : Nat} {ls : Array Slot} {rest As st0 : List Value} {D : va_G} {cI cB cR : ClassId} {ad : Nat → Nat} {w : St} {own C host : String} {c0 c2 : Cond} {y : MethodName} {ret : Option FieldType} {rm : Room} {b : Addr}
theorem recvN (hK : va_K D clA (tyA cI cB cR) s) (hP : va_P D clA (NC cI cB cR ad w) H) {i : Nat} (hi : i < 14) : ∃ cellB : Cell, H[ad (2 * i + 8)]? = some cellB ∧ cellB.vm.isStatics = false ∧ s.vm.findClass R_Na = some cellB.cls := va_recv hK hP (ci := 1) (q0 := 2 * i + 8) (q := (R_Na, F_Na, 2)) rfl (NC_o hi)
theorem recvB (hK : va_K D clA (tyA cI cB cR) s) (hP : va_P D clA (NC cI cB cR ad w) H) : ∃ cellB : Cell, H[ad 2]? = some cellB ∧ cellB.vm.isStatics = false ∧ s.vm.findClass R_Be = some cellB.cls := va_recv hK hP (ci := 2) (q0 := 2) (q := (R_Be, F_Be, 1)) rfl (NC_at (by decide))
theorem recvO (hK : va_K D clA (tyA cI cB cR) s) (hP : va_P D clA (NC cI cB cR ad w) H) : ∃ cellB : Cell, H[ad 4]? = some cellB ∧ cellB.vm.isStatics = false ∧ s.vm.findClass R_Ro = some cellB.cls := va_recv hK hP (ci := 3) (q0 := 4) (q := (R_Ro, F_Ro, 3)) rfl (NC_at (by decide))
theorem recvL (hK : va_K D clA (tyA cI cB cR) s) (hP : va_P D clA (NC cI cB cR ad w) H) : ∃ cellB : Cell, H[ad 0]? = some cellB ∧ cellB.vm.isStatics = false ∧ s.vm.findClass R_Lw = some cellB.cls := va_recv hK hP (ci := 0) (q0 := 0) (q := (R_Lw, F_Lw, 9)) rfl (NC_at (by decide))
theorem AAm {q : Nat} (hS : va_S (AA ad s.heap.size) s.heap H locs) (h : AA ad H.size q) : AA ad s.heap.size q := AA.mono hS.1 h
theorem wV_v {post : St → Prop} (S : CallFix p m c cc nL s args (c0 :: wA) own) (hM : Met l y (c2 :: wA) rm (va_Pc (.ref b :: As) (PW D cI cB cR ad w H.size)) (va_Qv post (BW D cI cB cR ad) (AA ad H.size)) 0 0 (AA ad H.size)) (cw : CallW R s args own C index y bytes maxL ret (c2 :: wA) rm 0 0 n) (hrecv : ∃ cellB : Cell, H[b]? = some cellB ∧ cellB.vm.isStatics = false ∧ s.vm.findClass C = some cellB.cls) (hKW : KW D cI cB cR ad s) (hP : va_P D clA (NC cI cB cR ad w) H) (hD : va_D (AA ad s.heap.size) (NC cI cB cR ad w)) (hS : va_S (AA ad s.heap.size) s.heap H locs) (hn : As.length = n) (hsize : ls.size = nL) (hstack : st0 = As.reverse ++ .ref b :: rest) (hW : (rest.map fun v => v.category).sum ≤ 8) (hdg : decode cc pc = .ok (.invokevirtual index, 3)) (hf : cells ≤ R.cells ∧ slots ≤ R.slots)
    (kk : ∀ (w1 : St) (H1 : Heap) (locs1 : List Loc), post w1 → va_P D clA (NC cI cB cR ad w1) H1 → va_D (AA ad s.heap.size) (NC cI cB cR ad w1) → va_S (AA ad s.heap.size) s.heap H1 locs1 → W p l e R s m args below meth c H1 locs1 cells slots Q (F0 m (pc + 3) ls (rest))) : W p l e R s m args below meth c H locs cells slots Q (F0 m pc ls st0) :=
  va_callv (va_runV (g := F0 m pc ls st0) S hM cw ⟨PW_blind, hrecv, fun U h1 h2 => ⟨rfl, PW_pre hKW hP hD hS U h1 h2⟩⟩ rfl hn hsize hstack (by show 2 * 0 + _ ≤ _; omega) hdg hf) hS (fun q _ h => AAm hS h) (fun q h => AAm hS h)
    (fun u t H1 locs1 e1 _ hp hb _ _ hS1 => kk u H1 locs1 hp (by rw [← e1]; exact hb) (NC_D hD) hS1)
theorem wV_i {post : Int32 → St → Prop} (S : CallFix p m c cc nL s args (c0 :: wA) own) (hM : Met l y (c2 :: wA) rm (va_Pc (.ref b :: As) (PW D cI cB cR ad w H.size)) (va_Qi post (BW D cI cB cR ad) (AA ad H.size)) 0 0 (AA ad H.size)) (cw : CallW R s args own C index y bytes maxL ret (c2 :: wA) rm 0 0 n) (hrecv : ∃ cellB : Cell, H[b]? = some cellB ∧ cellB.vm.isStatics = false ∧ s.vm.findClass C = some cellB.cls) (hKW : KW D cI cB cR ad s) (hP : va_P D clA (NC cI cB cR ad w) H) (hD : va_D (AA ad s.heap.size) (NC cI cB cR ad w)) (hS : va_S (AA ad s.heap.size) s.heap H locs) (hn : As.length = n) (hsize : ls.size = nL) (hstack : st0 = As.reverse ++ .ref b :: rest) (hW : (rest.map fun v => v.category).sum ≤ 8) (hdg : decode cc pc = .ok (.invokevirtual index, 3)) (hf : cells ≤ R.cells ∧ slots ≤ R.slots)
    (kk : ∀ (r : Int32) (w1 : St) (H1 : Heap) (locs1 : List Loc), post r w1 → va_P D clA (NC cI cB cR ad w1) H1 → va_D (AA ad s.heap.size) (NC cI cB cR ad w1) → va_S (AA ad s.heap.size) s.heap H1 locs1 → W p l e R s m args below meth c H1 locs1 cells slots Q (F0 m (pc + 3) ls (.int r :: rest))) : W p l e R s m args below meth c H locs cells slots Q (F0 m pc ls st0) :=
  va_calli (va_runV (g := F0 m pc ls st0) S hM cw ⟨PW_blind, hrecv, fun U h1 h2 => ⟨rfl, PW_pre hKW hP hD hS U h1 h2⟩⟩ rfl hn hsize hstack (by show 2 * 0 + _ ≤ _; omega) hdg hf) hS (fun q _ h => AAm hS h) (fun q h => AAm hS h)
    (fun r u t H1 locs1 e1 _ hp hb _ _ hS1 => kk r u H1 locs1 hp (by rw [← e1]; exact hb) (NC_D hD) hS1)
theorem wV_l {post : Int64 → St → Prop} (S : CallFix p m c cc nL s args (c0 :: wA) own) (hM : Met l y (c2 :: wA) rm (va_Pc (.ref b :: As) (PW D cI cB cR ad w H.size)) (va_Ql post (BW D cI cB cR ad) (AA ad H.size)) 0 0 (AA ad H.size)) (cw : CallW R s args own C index y bytes maxL ret (c2 :: wA) rm 0 0 n) (hrecv : ∃ cellB : Cell, H[b]? = some cellB ∧ cellB.vm.isStatics = false ∧ s.vm.findClass C = some cellB.cls) (hKW : KW D cI cB cR ad s) (hP : va_P D clA (NC cI cB cR ad w) H) (hD : va_D (AA ad s.heap.size) (NC cI cB cR ad w)) (hS : va_S (AA ad s.heap.size) s.heap H locs) (hn : As.length = n) (hsize : ls.size = nL) (hstack : st0 = As.reverse ++ .ref b :: rest) (hW : (rest.map fun v => v.category).sum ≤ 8) (hdg : decode cc pc = .ok (.invokevirtual index, 3)) (hf : cells ≤ R.cells ∧ slots ≤ R.slots)
    (kk : ∀ (r : Int64) (w1 : St) (H1 : Heap) (locs1 : List Loc), post r w1 → va_P D clA (NC cI cB cR ad w1) H1 → va_D (AA ad s.heap.size) (NC cI cB cR ad w1) → va_S (AA ad s.heap.size) s.heap H1 locs1 → W p l e R s m args below meth c H1 locs1 cells slots Q (F0 m (pc + 3) ls (.long r :: rest))) : W p l e R s m args below meth c H locs cells slots Q (F0 m pc ls st0) :=
  va_calll (va_runV (g := F0 m pc ls st0) S hM cw ⟨PW_blind, hrecv, fun U h1 h2 => ⟨rfl, PW_pre hKW hP hD hS U h1 h2⟩⟩ rfl hn hsize hstack (by show 2 * 0 + _ ≤ _; omega) hdg hf) hS (fun q _ h => AAm hS h) (fun q h => AAm hS h)
    (fun r u t H1 locs1 e1 _ hp hb _ _ hS1 => kk r u H1 locs1 hp (by rw [← e1]; exact hb) (NC_D hD) hS1)
theorem wS_v {post : St → Prop} (S : CallFix p m c cc nL s args (c0 :: wA) own) (hM : Met l y (c2 :: wA) rm (va_Pc As (PW D cI cB cR ad w H.size)) (va_Qv post (BW D cI cB cR ad) (AA ad H.size)) 0 0 (AA ad H.size)) (cw : CallB R s args own index y bytes maxL ret (c2 :: wA) rm 0 0 n ∧ (Cond.static y).before args s = true) (hKW : KW D cI cB cR ad s) (hP : va_P D clA (NC cI cB cR ad w) H) (hD : va_D (AA ad s.heap.size) (NC cI cB cR ad w)) (hS : va_S (AA ad s.heap.size) s.heap H locs) (hn : As.length = n) (hsize : ls.size = nL) (hstack : st0 = As.reverse ++ rest) (hW : (rest.map fun v => v.category).sum ≤ 8) (hdg : decode cc pc = .ok (.invokestatic index, 3)) (hf : cells ≤ R.cells ∧ slots ≤ R.slots)
    (kk : ∀ (w1 : St) (H1 : Heap) (locs1 : List Loc), post w1 → va_P D clA (NC cI cB cR ad w1) H1 → va_D (AA ad s.heap.size) (NC cI cB cR ad w1) → va_S (AA ad s.heap.size) s.heap H1 locs1 → W p l e R s m args below meth c H1 locs1 cells slots Q (F0 m (pc + 3) ls (rest))) : W p l e R s m args below meth c H locs cells slots Q (F0 m pc ls st0) :=
  va_callv (va_runS (g := F0 m pc ls st0) S hM cw ⟨PW_blind, fun U h1 h2 => ⟨rfl, PW_pre hKW hP hD hS U h1 h2⟩⟩ rfl hn hsize hstack (by show 2 * 0 + _ ≤ _; omega) hdg hf) hS (fun q _ h => AAm hS h) (fun q h => AAm hS h)
    (fun u t H1 locs1 e1 _ hp hb _ _ hS1 => kk u H1 locs1 hp (by rw [← e1]; exact hb) (NC_D hD) hS1)
theorem wS_i {post : Int32 → St → Prop} (S : CallFix p m c cc nL s args (c0 :: wA) own) (hM : Met l y (c2 :: wA) rm (va_Pc As (PW D cI cB cR ad w H.size)) (va_Qi post (BW D cI cB cR ad) (AA ad H.size)) 0 0 (AA ad H.size)) (cw : CallB R s args own index y bytes maxL ret (c2 :: wA) rm 0 0 n ∧ (Cond.static y).before args s = true) (hKW : KW D cI cB cR ad s) (hP : va_P D clA (NC cI cB cR ad w) H) (hD : va_D (AA ad s.heap.size) (NC cI cB cR ad w)) (hS : va_S (AA ad s.heap.size) s.heap H locs) (hn : As.length = n) (hsize : ls.size = nL) (hstack : st0 = As.reverse ++ rest) (hW : (rest.map fun v => v.category).sum ≤ 8) (hdg : decode cc pc = .ok (.invokestatic index, 3)) (hf : cells ≤ R.cells ∧ slots ≤ R.slots)
    (kk : ∀ (r : Int32) (w1 : St) (H1 : Heap) (locs1 : List Loc), post r w1 → va_P D clA (NC cI cB cR ad w1) H1 → va_D (AA ad s.heap.size) (NC cI cB cR ad w1) → va_S (AA ad s.heap.size) s.heap H1 locs1 → W p l e R s m args below meth c H1 locs1 cells slots Q (F0 m (pc + 3) ls (.int r :: rest))) : W p l e R s m args below meth c H locs cells slots Q (F0 m pc ls st0) :=
  va_calli (va_runS (g := F0 m pc ls st0) S hM cw ⟨PW_blind, fun U h1 h2 => ⟨rfl, PW_pre hKW hP hD hS U h1 h2⟩⟩ rfl hn hsize hstack (by show 2 * 0 + _ ≤ _; omega) hdg hf) hS (fun q _ h => AAm hS h) (fun q h => AAm hS h)
    (fun r u t H1 locs1 e1 _ hp hb _ _ hS1 => kk r u H1 locs1 hp (by rw [← e1]; exact hb) (NC_D hD) hS1)
theorem wS_l {post : Int64 → St → Prop} (S : CallFix p m c cc nL s args (c0 :: wA) own) (hM : Met l y (c2 :: wA) rm (va_Pc As (PW D cI cB cR ad w H.size)) (va_Ql post (BW D cI cB cR ad) (AA ad H.size)) 0 0 (AA ad H.size)) (cw : CallB R s args own index y bytes maxL ret (c2 :: wA) rm 0 0 n ∧ (Cond.static y).before args s = true) (hKW : KW D cI cB cR ad s) (hP : va_P D clA (NC cI cB cR ad w) H) (hD : va_D (AA ad s.heap.size) (NC cI cB cR ad w)) (hS : va_S (AA ad s.heap.size) s.heap H locs) (hn : As.length = n) (hsize : ls.size = nL) (hstack : st0 = As.reverse ++ rest) (hW : (rest.map fun v => v.category).sum ≤ 8) (hdg : decode cc pc = .ok (.invokestatic index, 3)) (hf : cells ≤ R.cells ∧ slots ≤ R.slots)
    (kk : ∀ (r : Int64) (w1 : St) (H1 : Heap) (locs1 : List Loc), post r w1 → va_P D clA (NC cI cB cR ad w1) H1 → va_D (AA ad s.heap.size) (NC cI cB cR ad w1) → va_S (AA ad s.heap.size) s.heap H1 locs1 → W p l e R s m args below meth c H1 locs1 cells slots Q (F0 m (pc + 3) ls (.long r :: rest))) : W p l e R s m args below meth c H locs cells slots Q (F0 m pc ls st0) :=
  va_calll (va_runS (g := F0 m pc ls st0) S hM cw ⟨PW_blind, fun U h1 h2 => ⟨rfl, PW_pre hKW hP hD hS U h1 h2⟩⟩ rfl hn hsize hstack (by show 2 * 0 + _ ≤ _; omega) hdg hf) hS (fun q _ h => AAm hS h) (fun q h => AAm hS h)
    (fun r u t H1 locs1 e1 _ hp hb _ _ hS1 => kk r u H1 locs1 hp (by rw [← e1]; exact hb) (NC_D hD) hS1)
theorem wVN_v {post : St → Prop} (S : CallFix p m c cc nL s args (c0 :: wA) own) (hM : Met l y (c2 :: wA) rm (va_Pc (.ref b :: As) (PW D cI cB cR ad w H.size)) (va_Qv post (BW D cI cB cR ad) (AA ad H.size)) 0 0 (AA ad H.size)) (cw : va_CN R s args own index y host bytes maxL ret (c2 :: wA) rm 0 0 n ∧ (Cond.instanceMethod y).before args s = true ∧ (Cond.selects C y y).before args s = true) (hrecv : ∃ cellB : Cell, H[b]? = some cellB ∧ cellB.vm.isStatics = false ∧ s.vm.findClass C = some cellB.cls) (hKW : KW D cI cB cR ad s) (hP : va_P D clA (NC cI cB cR ad w) H) (hD : va_D (AA ad s.heap.size) (NC cI cB cR ad w)) (hS : va_S (AA ad s.heap.size) s.heap H locs) (hn : As.length = n) (hsize : ls.size = nL) (hstack : st0 = As.reverse ++ .ref b :: rest) (hW : (rest.map fun v => v.category).sum ≤ 8) (hdg : decode cc pc = .ok (.invokevirtual index, 3)) (hf : cells ≤ R.cells ∧ slots ≤ R.slots)
    (kk : ∀ (w1 : St) (H1 : Heap) (locs1 : List Loc), post w1 → va_P D clA (NC cI cB cR ad w1) H1 → va_D (AA ad s.heap.size) (NC cI cB cR ad w1) → va_S (AA ad s.heap.size) s.heap H1 locs1 → W p l e R s m args below meth c H1 locs1 cells slots Q (F0 m (pc + 3) ls (rest))) : W p l e R s m args below meth c H locs cells slots Q (F0 m pc ls st0) :=
  va_callv (va_runVN (g := F0 m pc ls st0) S hM cw ⟨PW_blind, hrecv, fun U h1 h2 => ⟨rfl, PW_pre hKW hP hD hS U h1 h2⟩⟩ rfl hn hsize hstack (by show 2 * 0 + _ ≤ _; omega) hdg hf) hS (fun q _ h => AAm hS h) (fun q h => AAm hS h)
    (fun u t H1 locs1 e1 _ hp hb _ _ hS1 => kk u H1 locs1 hp (by rw [← e1]; exact hb) (NC_D hD) hS1)
theorem wVN_i {post : Int32 → St → Prop} (S : CallFix p m c cc nL s args (c0 :: wA) own) (hM : Met l y (c2 :: wA) rm (va_Pc (.ref b :: As) (PW D cI cB cR ad w H.size)) (va_Qi post (BW D cI cB cR ad) (AA ad H.size)) 0 0 (AA ad H.size)) (cw : va_CN R s args own index y host bytes maxL ret (c2 :: wA) rm 0 0 n ∧ (Cond.instanceMethod y).before args s = true ∧ (Cond.selects C y y).before args s = true) (hrecv : ∃ cellB : Cell, H[b]? = some cellB ∧ cellB.vm.isStatics = false ∧ s.vm.findClass C = some cellB.cls) (hKW : KW D cI cB cR ad s) (hP : va_P D clA (NC cI cB cR ad w) H) (hD : va_D (AA ad s.heap.size) (NC cI cB cR ad w)) (hS : va_S (AA ad s.heap.size) s.heap H locs) (hn : As.length = n) (hsize : ls.size = nL) (hstack : st0 = As.reverse ++ .ref b :: rest) (hW : (rest.map fun v => v.category).sum ≤ 8) (hdg : decode cc pc = .ok (.invokevirtual index, 3)) (hf : cells ≤ R.cells ∧ slots ≤ R.slots)
    (kk : ∀ (r : Int32) (w1 : St) (H1 : Heap) (locs1 : List Loc), post r w1 → va_P D clA (NC cI cB cR ad w1) H1 → va_D (AA ad s.heap.size) (NC cI cB cR ad w1) → va_S (AA ad s.heap.size) s.heap H1 locs1 → W p l e R s m args below meth c H1 locs1 cells slots Q (F0 m (pc + 3) ls (.int r :: rest))) : W p l e R s m args below meth c H locs cells slots Q (F0 m pc ls st0) :=
  va_calli (va_runVN (g := F0 m pc ls st0) S hM cw ⟨PW_blind, hrecv, fun U h1 h2 => ⟨rfl, PW_pre hKW hP hD hS U h1 h2⟩⟩ rfl hn hsize hstack (by show 2 * 0 + _ ≤ _; omega) hdg hf) hS (fun q _ h => AAm hS h) (fun q h => AAm hS h)
    (fun r u t H1 locs1 e1 _ hp hb _ _ hS1 => kk r u H1 locs1 hp (by rw [← e1]; exact hb) (NC_D hD) hS1)
theorem wVN_l {post : Int64 → St → Prop} (S : CallFix p m c cc nL s args (c0 :: wA) own) (hM : Met l y (c2 :: wA) rm (va_Pc (.ref b :: As) (PW D cI cB cR ad w H.size)) (va_Ql post (BW D cI cB cR ad) (AA ad H.size)) 0 0 (AA ad H.size)) (cw : va_CN R s args own index y host bytes maxL ret (c2 :: wA) rm 0 0 n ∧ (Cond.instanceMethod y).before args s = true ∧ (Cond.selects C y y).before args s = true) (hrecv : ∃ cellB : Cell, H[b]? = some cellB ∧ cellB.vm.isStatics = false ∧ s.vm.findClass C = some cellB.cls) (hKW : KW D cI cB cR ad s) (hP : va_P D clA (NC cI cB cR ad w) H) (hD : va_D (AA ad s.heap.size) (NC cI cB cR ad w)) (hS : va_S (AA ad s.heap.size) s.heap H locs) (hn : As.length = n) (hsize : ls.size = nL) (hstack : st0 = As.reverse ++ .ref b :: rest) (hW : (rest.map fun v => v.category).sum ≤ 8) (hdg : decode cc pc = .ok (.invokevirtual index, 3)) (hf : cells ≤ R.cells ∧ slots ≤ R.slots)
    (kk : ∀ (r : Int64) (w1 : St) (H1 : Heap) (locs1 : List Loc), post r w1 → va_P D clA (NC cI cB cR ad w1) H1 → va_D (AA ad s.heap.size) (NC cI cB cR ad w1) → va_S (AA ad s.heap.size) s.heap H1 locs1 → W p l e R s m args below meth c H1 locs1 cells slots Q (F0 m (pc + 3) ls (.long r :: rest))) : W p l e R s m args below meth c H locs cells slots Q (F0 m pc ls st0) :=
  va_calll (va_runVN (g := F0 m pc ls st0) S hM cw ⟨PW_blind, hrecv, fun U h1 h2 => ⟨rfl, PW_pre hKW hP hD hS U h1 h2⟩⟩ rfl hn hsize hstack (by show 2 * 0 + _ ≤ _; omega) hdg hf) hS (fun q _ h => AAm hS h) (fun q h => AAm hS h)
    (fun r u t H1 locs1 e1 _ hp hb _ _ hS1 => kk r u H1 locs1 hp (by rw [← e1]; exact hb) (NC_D hD) hS1)
theorem wSN_v {post : St → Prop} (S : CallFix p m c cc nL s args (c0 :: wA) own) (hM : Met l y (c2 :: wA) rm (va_Pc As (PW D cI cB cR ad w H.size)) (va_Qv post (BW D cI cB cR ad) (AA ad H.size)) 0 0 (AA ad H.size)) (cw : va_CN R s args own index y host bytes maxL ret (c2 :: wA) rm 0 0 n ∧ (Cond.static y).before args s = true ∧ True) (hKW : KW D cI cB cR ad s) (hP : va_P D clA (NC cI cB cR ad w) H) (hD : va_D (AA ad s.heap.size) (NC cI cB cR ad w)) (hS : va_S (AA ad s.heap.size) s.heap H locs) (hn : As.length = n) (hsize : ls.size = nL) (hstack : st0 = As.reverse ++ rest) (hW : (rest.map fun v => v.category).sum ≤ 8) (hdg : decode cc pc = .ok (.invokestatic index, 3)) (hf : cells ≤ R.cells ∧ slots ≤ R.slots)
    (kk : ∀ (w1 : St) (H1 : Heap) (locs1 : List Loc), post w1 → va_P D clA (NC cI cB cR ad w1) H1 → va_D (AA ad s.heap.size) (NC cI cB cR ad w1) → va_S (AA ad s.heap.size) s.heap H1 locs1 → W p l e R s m args below meth c H1 locs1 cells slots Q (F0 m (pc + 3) ls (rest))) : W p l e R s m args below meth c H locs cells slots Q (F0 m pc ls st0) :=
  va_callv (va_runSN (g := F0 m pc ls st0) S hM cw ⟨PW_blind, fun U h1 h2 => ⟨rfl, PW_pre hKW hP hD hS U h1 h2⟩⟩ rfl hn hsize hstack (by show 2 * 0 + _ ≤ _; omega) hdg hf) hS (fun q _ h => AAm hS h) (fun q h => AAm hS h)
    (fun u t H1 locs1 e1 _ hp hb _ _ hS1 => kk u H1 locs1 hp (by rw [← e1]; exact hb) (NC_D hD) hS1)
theorem wSN_i {post : Int32 → St → Prop} (S : CallFix p m c cc nL s args (c0 :: wA) own) (hM : Met l y (c2 :: wA) rm (va_Pc As (PW D cI cB cR ad w H.size)) (va_Qi post (BW D cI cB cR ad) (AA ad H.size)) 0 0 (AA ad H.size)) (cw : va_CN R s args own index y host bytes maxL ret (c2 :: wA) rm 0 0 n ∧ (Cond.static y).before args s = true ∧ True) (hKW : KW D cI cB cR ad s) (hP : va_P D clA (NC cI cB cR ad w) H) (hD : va_D (AA ad s.heap.size) (NC cI cB cR ad w)) (hS : va_S (AA ad s.heap.size) s.heap H locs) (hn : As.length = n) (hsize : ls.size = nL) (hstack : st0 = As.reverse ++ rest) (hW : (rest.map fun v => v.category).sum ≤ 8) (hdg : decode cc pc = .ok (.invokestatic index, 3)) (hf : cells ≤ R.cells ∧ slots ≤ R.slots)
    (kk : ∀ (r : Int32) (w1 : St) (H1 : Heap) (locs1 : List Loc), post r w1 → va_P D clA (NC cI cB cR ad w1) H1 → va_D (AA ad s.heap.size) (NC cI cB cR ad w1) → va_S (AA ad s.heap.size) s.heap H1 locs1 → W p l e R s m args below meth c H1 locs1 cells slots Q (F0 m (pc + 3) ls (.int r :: rest))) : W p l e R s m args below meth c H locs cells slots Q (F0 m pc ls st0) :=
  va_calli (va_runSN (g := F0 m pc ls st0) S hM cw ⟨PW_blind, fun U h1 h2 => ⟨rfl, PW_pre hKW hP hD hS U h1 h2⟩⟩ rfl hn hsize hstack (by show 2 * 0 + _ ≤ _; omega) hdg hf) hS (fun q _ h => AAm hS h) (fun q h => AAm hS h)
    (fun r u t H1 locs1 e1 _ hp hb _ _ hS1 => kk r u H1 locs1 hp (by rw [← e1]; exact hb) (NC_D hD) hS1)
theorem wSN_l {post : Int64 → St → Prop} (S : CallFix p m c cc nL s args (c0 :: wA) own) (hM : Met l y (c2 :: wA) rm (va_Pc As (PW D cI cB cR ad w H.size)) (va_Ql post (BW D cI cB cR ad) (AA ad H.size)) 0 0 (AA ad H.size)) (cw : va_CN R s args own index y host bytes maxL ret (c2 :: wA) rm 0 0 n ∧ (Cond.static y).before args s = true ∧ True) (hKW : KW D cI cB cR ad s) (hP : va_P D clA (NC cI cB cR ad w) H) (hD : va_D (AA ad s.heap.size) (NC cI cB cR ad w)) (hS : va_S (AA ad s.heap.size) s.heap H locs) (hn : As.length = n) (hsize : ls.size = nL) (hstack : st0 = As.reverse ++ rest) (hW : (rest.map fun v => v.category).sum ≤ 8) (hdg : decode cc pc = .ok (.invokestatic index, 3)) (hf : cells ≤ R.cells ∧ slots ≤ R.slots)
    (kk : ∀ (r : Int64) (w1 : St) (H1 : Heap) (locs1 : List Loc), post r w1 → va_P D clA (NC cI cB cR ad w1) H1 → va_D (AA ad s.heap.size) (NC cI cB cR ad w1) → va_S (AA ad s.heap.size) s.heap H1 locs1 → W p l e R s m args below meth c H1 locs1 cells slots Q (F0 m (pc + 3) ls (.long r :: rest))) : W p l e R s m args below meth c H locs cells slots Q (F0 m pc ls st0) :=
  va_calll (va_runSN (g := F0 m pc ls st0) S hM cw ⟨PW_blind, fun U h1 h2 => ⟨rfl, PW_pre hKW hP hD hS U h1 h2⟩⟩ rfl hn hsize hstack (by show 2 * 0 + _ ≤ _; omega) hdg hf) hS (fun q _ h => AAm hS h) (fun q h => AAm hS h)
    (fun r u t H1 locs1 e1 _ hp hb _ _ hS1 => kk r u H1 locs1 hp (by rw [← e1]; exact hb) (NC_D hD) hS1)
end PWc

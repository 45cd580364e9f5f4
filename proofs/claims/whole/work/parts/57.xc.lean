/-! CALLS THAT MAY THROW, in the world -/
/-- what is left where a method of the class has thrown -/
def XW (D : va_G) (cI cB cR : ClassId) (ad : Nat → Nat) (cond : String → St → Prop) (sz : Nat) : String → State → State → Prop := vx_X (fun _ : St => True) (fun E u t => cond E u ∧ BW D cI cB cR ad u t) (AA ad sz)
section VXR
variable {p : Program} {l : Launch} {e : Env} {R : Room} {s : State} {m : MethodId} {args : Array Value} {below : List Frame} {meth : Method} {c : Code} {H : Heap} {locs : List Loc} {cells slots : Nat} {Q : State → Prop}
variable {mc ms : Nat} {free : Addr → Prop} {A0 A1 : Nat → Prop} {H0 : Heap} {a : Array Value} {pc : Nat} {ls : Array Slot} {st0 rest : List Value}
theorem vx_callr {S SX : Type} {post : S → Prop} {px : SX → Prop} {B : S → Nat → State → Prop} {BX : String → SX → State → Prop} {AX : Nat → Prop} (hr : vx_Run p l e R s m args below meth c H locs cells slots mc ms (F0 m pc ls st0) rest (va_Qr post B A1 a) (vx_X px BX AX) free) (hS : va_S A0 H0 H locs) (hA : ∀ q, q < H.size → A1 q → A0 q) (hf : ∀ q, free q → A0 q) (hAX : ∀ q, q < H.size → AX q → A0 q)
    (kx : ∀ (E : String) (ce : Cell) (q9 : Addr) (u : SX) (t : State) (H1 : Heap) (locs1 : List Loc), t.heap = H1 → s.vm.Alike t.vm → px u → BX E u t → H.size ≤ H1.size → (∀ q : Nat, q < H.size → ¬ AX q → H1[q]? = H[q]?) → va_S A0 H0 H1 locs1 → H1[q9]? = some ce → ce.vm = .none → s.vm.findClass E = some ce.cls → vx_W p l e R s m args below meth c H1 locs1 (cells + mc) (slots + ms) Q (F0 m pc ls rest) q9)
    (kk : ∀ (u : S) (ra : Nat) (t : State) (H1 : Heap) (locs1 : List Loc), t.heap = H1 → s.vm.Alike t.vm → post u → B u ra t → H.size ≤ H1.size → (∀ q : Nat, q < H.size → ¬ A1 q → H1[q]? = H[q]?) → va_S A0 H0 H1 locs1 → W p l e R s m args below meth c H1 locs1 (cells + mc) (slots + ms) Q (F0 m (pc + 3) ls (.ref ra :: rest))) : W p l e R s m args below meth c H locs cells slots Q (F0 m pc ls st0) := by
  intro T hT X
  rcases hr T hT X with ⟨v, st₀, t, T', L, h0, X', hL, e1, e2, ⟨⟨u, ra, hv, hp, hb⟩, hF⟩, st⟩ | ⟨q, st₀, t, T', L, E, ce, h0, X', hL, e1, e2, ⟨u, hp, hb, hF⟩, hce, hcv, hcl, st⟩
  · cases hv
    obtain ⟨k1, k2, k3⟩ := vx_keep h0 e1 hS hA hf hL hF
    obtain ⟨t2, a1, b1⟩ := kk u ra t T'.heap (locs ++ L) e1.symm (by rw [← e2]; exact X'.warmed.alike) hp hb k1 k2 k3 T' rfl X'
    exact ⟨t2, st t2 a1, b1⟩
  · obtain ⟨k1, k2, k3⟩ := vx_keep h0 e1 hS hAX hf hL hF
    obtain ⟨t2, a1, b1⟩ := kx E ce q u t T'.heap (locs ++ L) e1.symm (by rw [← e2]; exact X'.warmed.alike) hp hb k1 k2 k3 (by rw [e1]; exact hce) hcv hcl T' rfl X'
    exact ⟨t2, st.trans a1, b1⟩
end VXR
section XC
variable {p : Program} {l : Launch} {e : Env} {R : Room} {s : State} {m : MethodId} {args : Array Value} {below : List Frame} {meth : Method} {c : Code} {H : Heap} {locs : List Loc} {cells slots mc ms MC MS : Nat} {Q : State → Prop}
variable {cc bytes : ByteArray} {pc nL maxL index n : Nat} {ls : Array Slot} {rest As st0 : List Value} {D : va_G} {cI cB cR : ClassId} {ad : Nat → Nat} {w : St} {own C : String} {c0 c2 : Cond} {y : MethodName} {ret : Option FieldType} {rm : Room} {b : Addr} {Qc : Array Value → State → Outcome → State → Prop} {cond cond' : String → St → Prop}
/-- a throw of a callee goes on to the caller -/
theorem xw_out (htab : ∀ x ∈ c.exceptionTable.toList, False) (hlocks : meth.locks = false) (hc : cells ≤ MC) (hs : slots ≤ MS) {E : String} {ce : Cell} {q9 : Addr} {u : St} {t0 : State} {rs : List Value} (e1 : t0.heap = H) (hb : cond E u ∧ BW D cI cB cR ad u t0) (hx : ∀ E u, cond E u → cond' E u) (hS : va_S (AA ad s.heap.size) s.heap H locs) (hcell : H[q9]? = some ce) (hv : ce.vm = .none) (hcl : s.vm.findClass E = some ce.cls) :
    vx_W p l e R s m args below meth c H locs cells slots (vx_MQ below Qc (XW D cI cB cR ad cond' s.heap.size) args s MC MS (AA ad s.heap.size)) (F0 m pc ls rs) q9 :=
  vx_out (fun x hx => (htab x hx).elim) hlocks hcell hv hcl (fun t ht _ => ⟨u, trivial, ⟨hx E u hb.1, BW_of ht (by have := hb.2; unfold BW at this; rw [e1] at this; exact this)⟩, hS.F ht⟩) hS.2.2 hc hs
theorem xV_v {post : St → Prop} (S : CallFix p m c cc nL s args (c0 :: wA) own) (hM : vx_Met l y (c2 :: wA) rm (va_Pc (.ref b :: As) (PW D cI cB cR ad w H.size)) (va_Qv post (BW D cI cB cR ad) (AA ad H.size)) (XW D cI cB cR ad cond H.size) mc ms (AA ad H.size)) (cw : CallW R s args own C index y bytes maxL ret (c2 :: wA) rm mc ms n) (hrecv : ∃ cellB : Cell, H[b]? = some cellB ∧ cellB.vm.isStatics = false ∧ s.vm.findClass C = some cellB.cls) (hKW : KW D cI cB cR ad s) (hP : va_P D clA (NC cI cB cR ad w) H) (hD : va_D (AA ad s.heap.size) (NC cI cB cR ad w)) (hS : va_S (AA ad s.heap.size) s.heap H locs) (hn : As.length = n) (hsize : ls.size = nL) (hstack : st0 = As.reverse ++ .ref b :: rest) (hW : (rest.map fun v => v.category).sum ≤ 8) (hdg : decode cc pc = .ok (.invokevirtual index, 3)) (hf : cells + mc ≤ R.cells ∧ slots + ms ≤ R.slots)
    (htab : ∀ x ∈ c.exceptionTable.toList, False) (hlocks : meth.locks = false) (hc : cells + mc ≤ MC ∧ slots + ms ≤ MS) (hx : ∀ E u, cond E u → cond' E u)
    (kk : ∀ (w1 : St) (H1 : Heap) (locs1 : List Loc), post w1 → va_P D clA (NC cI cB cR ad w1) H1 → va_D (AA ad s.heap.size) (NC cI cB cR ad w1) → va_S (AA ad s.heap.size) s.heap H1 locs1 → W p l e R s m args below meth c H1 locs1 (cells + mc) (slots + ms) (vx_MQ below Qc (XW D cI cB cR ad cond' s.heap.size) args s MC MS (AA ad s.heap.size)) (F0 m (pc + 3) ls (rest))) : W p l e R s m args below meth c H locs cells slots (vx_MQ below Qc (XW D cI cB cR ad cond' s.heap.size) args s MC MS (AA ad s.heap.size)) (F0 m pc ls st0) :=
  vx_callv (vx_runV (g := F0 m pc ls st0) S hM cw ⟨PW_blind, hrecv, fun U h1 h2 => ⟨rfl, PW_pre hKW hP hD hS U h1 h2⟩⟩ rfl hn hsize hstack (by show 2 * 0 + _ ≤ _; omega) hdg hf) hS (fun q _ h => AAm hS h) (fun q h => AAm hS h) (fun q _ h => AAm hS h)
    (fun E ce q9 u t H1 locs1 e1 _ _ hb _ _ hS1 h1 h2 h3 => xw_out htab hlocks hc.1 hc.2 e1 hb hx hS1 h1 h2 h3)
    (fun u t H1 locs1 e1 _ hp hb _ _ hS1 => kk u H1 locs1 hp (by rw [← e1]; exact hb) (NC_D hD) hS1)
theorem xV_r {post : St × Nat → Prop} (S : CallFix p m c cc nL s args (c0 :: wA) own) (hM : vx_Met l y (c2 :: wA) rm (va_Pc (.ref b :: As) (PW D cI cB cR ad w H.size)) (va_Qr post (fun u ra t => ra = u.2 ∧ BW D cI cB cR ad u.1 t) (AA ad H.size)) (XW D cI cB cR ad cond H.size) mc ms (AA ad H.size)) (cw : CallW R s args own C index y bytes maxL ret (c2 :: wA) rm mc ms n) (hrecv : ∃ cellB : Cell, H[b]? = some cellB ∧ cellB.vm.isStatics = false ∧ s.vm.findClass C = some cellB.cls) (hKW : KW D cI cB cR ad s) (hP : va_P D clA (NC cI cB cR ad w) H) (hD : va_D (AA ad s.heap.size) (NC cI cB cR ad w)) (hS : va_S (AA ad s.heap.size) s.heap H locs) (hn : As.length = n) (hsize : ls.size = nL) (hstack : st0 = As.reverse ++ .ref b :: rest) (hW : (rest.map fun v => v.category).sum ≤ 8) (hdg : decode cc pc = .ok (.invokevirtual index, 3)) (hf : cells + mc ≤ R.cells ∧ slots + ms ≤ R.slots)
    (htab : ∀ x ∈ c.exceptionTable.toList, False) (hlocks : meth.locks = false) (hc : cells + mc ≤ MC ∧ slots + ms ≤ MS) (hx : ∀ E u, cond E u → cond' E u)
    (kk : ∀ (w1 : St) (ra : Nat) (H1 : Heap) (locs1 : List Loc), post (w1, ra) → va_P D clA (NC cI cB cR ad w1) H1 → va_D (AA ad s.heap.size) (NC cI cB cR ad w1) → va_S (AA ad s.heap.size) s.heap H1 locs1 → W p l e R s m args below meth c H1 locs1 (cells + mc) (slots + ms) (vx_MQ below Qc (XW D cI cB cR ad cond' s.heap.size) args s MC MS (AA ad s.heap.size)) (F0 m (pc + 3) ls (.ref ra :: rest))) : W p l e R s m args below meth c H locs cells slots (vx_MQ below Qc (XW D cI cB cR ad cond' s.heap.size) args s MC MS (AA ad s.heap.size)) (F0 m pc ls st0) :=
  vx_callr (vx_runV (g := F0 m pc ls st0) S hM cw ⟨PW_blind, hrecv, fun U h1 h2 => ⟨rfl, PW_pre hKW hP hD hS U h1 h2⟩⟩ rfl hn hsize hstack (by show 2 * 0 + _ ≤ _; omega) hdg hf) hS (fun q _ h => AAm hS h) (fun q h => AAm hS h) (fun q _ h => AAm hS h)
    (fun E ce q9 u t H1 locs1 e1 _ _ hb _ _ hS1 h1 h2 h3 => xw_out htab hlocks hc.1 hc.2 e1 hb hx hS1 h1 h2 h3)
    (fun u ra t H1 locs1 e1 _ hp hb _ _ hS1 => kk u.1 ra H1 locs1 (by rw [hb.1]; exact hp) (by have := hb.2; unfold BW at this; rw [e1] at this; exact this) (NC_D hD) hS1)
theorem xS_v {post : St → Prop} (S : CallFix p m c cc nL s args (c0 :: wA) own) (hM : vx_Met l y (c2 :: wA) rm (va_Pc As (PW D cI cB cR ad w H.size)) (va_Qv post (BW D cI cB cR ad) (AA ad H.size)) (XW D cI cB cR ad cond H.size) mc ms (AA ad H.size)) (cw : CallB R s args own index y bytes maxL ret (c2 :: wA) rm mc ms n ∧ (Cond.static y).before args s = true) (hKW : KW D cI cB cR ad s) (hP : va_P D clA (NC cI cB cR ad w) H) (hD : va_D (AA ad s.heap.size) (NC cI cB cR ad w)) (hS : va_S (AA ad s.heap.size) s.heap H locs) (hn : As.length = n) (hsize : ls.size = nL) (hstack : st0 = As.reverse ++ rest) (hW : (rest.map fun v => v.category).sum ≤ 8) (hdg : decode cc pc = .ok (.invokestatic index, 3)) (hf : cells + mc ≤ R.cells ∧ slots + ms ≤ R.slots)
    (htab : ∀ x ∈ c.exceptionTable.toList, False) (hlocks : meth.locks = false) (hc : cells + mc ≤ MC ∧ slots + ms ≤ MS) (hx : ∀ E u, cond E u → cond' E u)
    (kk : ∀ (w1 : St) (H1 : Heap) (locs1 : List Loc), post w1 → va_P D clA (NC cI cB cR ad w1) H1 → va_D (AA ad s.heap.size) (NC cI cB cR ad w1) → va_S (AA ad s.heap.size) s.heap H1 locs1 → W p l e R s m args below meth c H1 locs1 (cells + mc) (slots + ms) (vx_MQ below Qc (XW D cI cB cR ad cond' s.heap.size) args s MC MS (AA ad s.heap.size)) (F0 m (pc + 3) ls (rest))) : W p l e R s m args below meth c H locs cells slots (vx_MQ below Qc (XW D cI cB cR ad cond' s.heap.size) args s MC MS (AA ad s.heap.size)) (F0 m pc ls st0) :=
  vx_callv (vx_runS (g := F0 m pc ls st0) S hM cw ⟨PW_blind, fun U h1 h2 => ⟨rfl, PW_pre hKW hP hD hS U h1 h2⟩⟩ rfl hn hsize hstack (by show 2 * 0 + _ ≤ _; omega) hdg hf) hS (fun q _ h => AAm hS h) (fun q h => AAm hS h) (fun q _ h => AAm hS h)
    (fun E ce q9 u t H1 locs1 e1 _ _ hb _ _ hS1 h1 h2 h3 => xw_out htab hlocks hc.1 hc.2 e1 hb hx hS1 h1 h2 h3)
    (fun u t H1 locs1 e1 _ hp hb _ _ hS1 => kk u H1 locs1 hp (by rw [← e1]; exact hb) (NC_D hD) hS1)
/-- 'throw new E()' -/
theorem xthrow {cls : String} {ik ic : Nat} (hexec : p.tables.exec = Jvm.exec) (hb : c.code = cc) (hl : l.stackTraces = false) (hown : s.vm.findClass own = some m.cls) (hfit : Bundle.fit cls = true) (hts : ∀ w ∈ c0 :: wA, w.before args s = true)
    (ta : ∀ w ∈ (vx_at0 own ic cls sups).filter goodWord, w ∈ wA) (tb : ∀ w ∈ (vx_at0 own ic cls sups).filter (fun w => !goodWord w), w ∈ wB) (tg : ∀ w ∈ Cond.classLink own ik cls :: Cond.initialized cls :: vx_at0 own ic cls sups, vx_ot w = true) (tk : Cond.classLink own ik cls ∈ wA) (ti : Cond.initialized cls ∈ wA)
    (hKW : KW D cI cB cR ad s) (hP : va_P D clA (NC cI cB cR ad w) H) (hS : va_S (AA ad s.heap.size) s.heap H locs) (hsize : ls.size = c.maxLocals)
    (d0 : decode cc pc = .ok (.new ik, 3)) (d3 : decode cc (pc + 3) = .ok (.dup, 1)) (d4 : decode cc (pc + 4) = .ok (.invokespecial ic, 3)) (d7 : decode cc (pc + 7) = .ok (.athrow, 1))
    (htab : ∀ x ∈ c.exceptionTable.toList, False) (hlocks : meth.locks = false) (hRf : 5 < R.frames) (hRl : (rest.map fun v => v.category).sum + 81 ≤ R.locals) (hRc : cells + 1 ≤ R.cells) (hRs : slots + 6 ≤ R.slots) (hc : cells + 1 ≤ MC) (hs : slots + 6 ≤ MS) (hcond : cond cls w) :
    W p l e R s m args below meth c H locs cells slots (vx_MQ below Qc (XW D cI cB cR ad cond s.heap.size) args s MC MS (AA ad s.heap.size)) (F0 m pc ls rest) := by
  refine vx_throw0 (names := sups) (ik := ik) (ic := ic) (A := AA ad s.heap.size) hexec hb hl hown hfit (by decide) (hA_ hts tk) (hA_ hts ti) ?_ tg hKW.2.2.1 hKW.2.2.2 hS hsize d0 d3 d4 d7 (fun x hx => (htab x hx).elim) hRf hRl hRc hRs hlocks ?_ hS.2.2 hc hs
  · refine vx_hat (B := wB) (fun w hw => hA_ hts (ta w hw)) tb (fun w hw => ?_)
    have h1 : va_Nw w s := hKW.2.1 w hw
    have hg : w.onTables = true := by
      simp only [wB, List.mem_cons, List.not_mem_nil, or_false] at hw
      rcases hw with e | e | e | e | e | e | e | e | e | e | e <;> subst e <;> rfl
    exact va_tabs hg rfl h1
  · intro t _ hsz hk
    refine ⟨w, trivial, ⟨hcond, ?_⟩, ?_⟩
    · exact hP.kept (fun k q hq => hk _ (vx_lt hP hq))
    · exact ⟨Nat.le_trans hS.1 hsz, fun q h1 h2 => by rw [hk q (Nat.lt_of_lt_of_le h1 hS.1)]; exact hS.2.1 q h1 h2⟩
end XC

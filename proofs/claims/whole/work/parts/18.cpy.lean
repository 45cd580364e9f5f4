/-! COPIES between the rows of ints; words of System and Math -/
theorem ac_native : (.native arraycopyName : Cond) ∈ wA := inT 228 (by decide +kernel) rfl
theorem ac_static : (.static arraycopyName : Cond) ∈ wA := inT 227 (by decide +kernel) rfl
theorem in_System : (.initialized "java/lang/System" : Cond) ∈ wA := inT 12 (by decide +kernel) rfl
theorem in_Math : (.initialized "java/lang/Math" : Cond) ∈ wA := inT 20 (by decide +kernel) rfl
theorem st_max : (.static Lib.Math.max.name : Cond) ∈ wA := inT 327 (by decide +kernel) rfl
theorem st_min : (.static Lib.Math.min.name : Cond) ∈ wA := inT 345 (by decide +kernel) rfl
set_option maxRecDepth 20000 in
theorem kq_max : Cond.code Lib.Math.max.name Lib.Math.max.code 2 (some .int) ∈ wA := inT 328 (by decide +kernel) rfl
set_option maxRecDepth 20000 in
theorem kq_min : Cond.code Lib.Math.min.name Lib.Math.min.code 2 (some .int) ∈ wA := inT 346 (by decide +kernel) rfl
section CPY
variable {p : Program} {l : Launch} {e : Env} {R : Room} {s : State} {m : MethodId} {args : Array Value} {below : List Frame} {meth : Method} {c : Code} {H : Heap} {locs : List Loc} {cells slots : Nat} {Q : State → Prop}
variable {cc : ByteArray} {pc : Nat} {ls : Array Slot} {rest : List Value} {D : va_G} {A : Nat → Prop} {H0 : Heap} {cI cB cR : ClassId} {ad : Nat → Nat} {w : St} {own : String} {index : Nat} {c0 : Cond}
theorem nw_cWW (hexec : p.tables.exec = Jvm.exec) (hb : c.code = cc) (hml : c.maxLocals = ls.size) (hts : ∀ w ∈ c0 :: wA, w.before args s = true) (hown : s.vm.findClass own = some m.cls) (hlink : Cond.methodLink own index arraycopyName ∈ wA) (hK : va_K D clA (tyA cI cB cR) s) (hP : va_P D clA (NC cI cB cR ad w) H) (hD : va_D A (NC cI cB cR ad w)) (hS : va_S A H0 H locs) {a : Nat} (ha : a < 14) {i : Nat} (hi : i < 14) {sp dp n : Nat} (h4 : sp + n ≤ 6272) (h5 : dp + n ≤ 6272)
    (hframes : 1 ≤ R.frames) (hlocals : (rest.map fun v => v.category).sum + (nativeFrameWords "java/lang/System" "arraycopy" 5 + 11) ≤ R.locals) (hdg : decode cc pc = .ok (.invokestatic index, 3))
    (kk : ∀ (H1 : Heap) (locs1 : List Loc), va_P D clA (NC cI cB cR ad (pW w i (va_cpy (sW w a) (sW w i) sp dp n))) H1 → va_D A (NC cI cB cR ad (pW w i (va_cpy (sW w a) (sW w i) sp dp n))) → va_S A H0 H1 locs1 → W p l e R s m args below meth c H1 locs1 cells slots Q (F0 m (pc + 3) ls rest)) : W p l e R s m args below meth c H locs cells slots Q (F0 m pc ls (.int (nI n) :: .int (nI dp) :: .ref (ad (2 * i + 9)) :: .int (nI sp) :: .ref (ad (2 * a + 9)) :: rest)) := by
  refine va_copyi hexec hb hml hown (hA_ hts hlink) (hA_ hts ac_native) (hA_ hts ac_static) (hA_ hts in_System) hK hP hD hS (2 * a + 9) (2 * i + 9) 0 0 (ty := .int) (NC_w ha) (NC_w hi) rfl rfl rfl (nI_pos (by omega)) (nI_pos (by omega)) (nI_pos (by omega)) (by rw [nI_clamp (by omega), nI_clamp (by omega)]; exact h4) (by rw [nI_clamp (by omega), nI_clamp (by omega)]; exact h5) (fun _ _ => rfl) hframes hlocals hdg (fun H1 locs1 h1 h2 h3 => ?_)
  rw [nI_clamp (by omega), nI_clamp (by omega), nI_clamp (by omega)] at h1 h2
  exact kk H1 locs1 (NC_pW hi ▸ h1) (NC_pW hi ▸ h2) h3
theorem nw_cWR (hexec : p.tables.exec = Jvm.exec) (hb : c.code = cc) (hml : c.maxLocals = ls.size) (hts : ∀ w ∈ c0 :: wA, w.before args s = true) (hown : s.vm.findClass own = some m.cls) (hlink : Cond.methodLink own index arraycopyName ∈ wA) (hK : va_K D clA (tyA cI cB cR) s) (hP : va_P D clA (NC cI cB cR ad w) H) (hD : va_D A (NC cI cB cR ad w)) (hS : va_S A H0 H locs) {a : Nat} (ha : a < 14) {sp dp n : Nat} (h4 : sp + n ≤ 6272) (h5 : dp + n ≤ 28672)
    (hframes : 1 ≤ R.frames) (hlocals : (rest.map fun v => v.category).sum + (nativeFrameWords "java/lang/System" "arraycopy" 5 + 11) ≤ R.locals) (hdg : decode cc pc = .ok (.invokestatic index, 3))
    (kk : ∀ (H1 : Heap) (locs1 : List Loc), va_P D clA (NC cI cB cR ad (pR w (va_cpy (sW w a) (sR w) sp dp n))) H1 → va_D A (NC cI cB cR ad (pR w (va_cpy (sW w a) (sR w) sp dp n))) → va_S A H0 H1 locs1 → W p l e R s m args below meth c H1 locs1 cells slots Q (F0 m (pc + 3) ls rest)) : W p l e R s m args below meth c H locs cells slots Q (F0 m pc ls (.int (nI n) :: .int (nI dp) :: .ref (ad 3) :: .int (nI sp) :: .ref (ad (2 * a + 9)) :: rest)) := by
  refine va_copyi hexec hb hml hown (hA_ hts hlink) (hA_ hts ac_native) (hA_ hts ac_static) (hA_ hts in_System) hK hP hD hS (2 * a + 9) 3 0 0 (ty := .int) (NC_w ha) (NC_at (by decide)) rfl rfl rfl (nI_pos (by omega)) (nI_pos (by omega)) (nI_pos (by omega)) (by rw [nI_clamp (by omega), nI_clamp (by omega)]; exact h4) (by rw [nI_clamp (by omega), nI_clamp (by omega)]; exact h5) (fun _ _ => rfl) hframes hlocals hdg (fun H1 locs1 h1 h2 h3 => ?_)
  rw [nI_clamp (by omega), nI_clamp (by omega), nI_clamp (by omega)] at h1 h2
  exact kk H1 locs1 (NC_pR _ ▸ h1) (NC_pR _ ▸ h2) h3
theorem nw_cRW (hexec : p.tables.exec = Jvm.exec) (hb : c.code = cc) (hml : c.maxLocals = ls.size) (hts : ∀ w ∈ c0 :: wA, w.before args s = true) (hown : s.vm.findClass own = some m.cls) (hlink : Cond.methodLink own index arraycopyName ∈ wA) (hK : va_K D clA (tyA cI cB cR) s) (hP : va_P D clA (NC cI cB cR ad w) H) (hD : va_D A (NC cI cB cR ad w)) (hS : va_S A H0 H locs) {i : Nat} (hi : i < 14) {sp dp n : Nat} (h4 : sp + n ≤ 28672) (h5 : dp + n ≤ 6272)
    (hframes : 1 ≤ R.frames) (hlocals : (rest.map fun v => v.category).sum + (nativeFrameWords "java/lang/System" "arraycopy" 5 + 11) ≤ R.locals) (hdg : decode cc pc = .ok (.invokestatic index, 3))
    (kk : ∀ (H1 : Heap) (locs1 : List Loc), va_P D clA (NC cI cB cR ad (pW w i (va_cpy (sR w) (sW w i) sp dp n))) H1 → va_D A (NC cI cB cR ad (pW w i (va_cpy (sR w) (sW w i) sp dp n))) → va_S A H0 H1 locs1 → W p l e R s m args below meth c H1 locs1 cells slots Q (F0 m (pc + 3) ls rest)) : W p l e R s m args below meth c H locs cells slots Q (F0 m pc ls (.int (nI n) :: .int (nI dp) :: .ref (ad (2 * i + 9)) :: .int (nI sp) :: .ref (ad 3) :: rest)) := by
  refine va_copyi hexec hb hml hown (hA_ hts hlink) (hA_ hts ac_native) (hA_ hts ac_static) (hA_ hts in_System) hK hP hD hS 3 (2 * i + 9) 0 0 (ty := .int) (NC_at (by decide)) (NC_w hi) rfl rfl rfl (nI_pos (by omega)) (nI_pos (by omega)) (nI_pos (by omega)) (by rw [nI_clamp (by omega), nI_clamp (by omega)]; exact h4) (by rw [nI_clamp (by omega), nI_clamp (by omega)]; exact h5) (fun _ _ => rfl) hframes hlocals hdg (fun H1 locs1 h1 h2 h3 => ?_)
  rw [nI_clamp (by omega), nI_clamp (by omega), nI_clamp (by omega)] at h1 h2
  exact kk H1 locs1 (NC_pW hi ▸ h1) (NC_pW hi ▸ h2) h3
theorem nw_cRR (hexec : p.tables.exec = Jvm.exec) (hb : c.code = cc) (hml : c.maxLocals = ls.size) (hts : ∀ w ∈ c0 :: wA, w.before args s = true) (hown : s.vm.findClass own = some m.cls) (hlink : Cond.methodLink own index arraycopyName ∈ wA) (hK : va_K D clA (tyA cI cB cR) s) (hP : va_P D clA (NC cI cB cR ad w) H) (hD : va_D A (NC cI cB cR ad w)) (hS : va_S A H0 H locs) {sp dp n : Nat} (h4 : sp + n ≤ 28672) (h5 : dp + n ≤ 28672)
    (hframes : 1 ≤ R.frames) (hlocals : (rest.map fun v => v.category).sum + (nativeFrameWords "java/lang/System" "arraycopy" 5 + 11) ≤ R.locals) (hdg : decode cc pc = .ok (.invokestatic index, 3))
    (kk : ∀ (H1 : Heap) (locs1 : List Loc), va_P D clA (NC cI cB cR ad (pR w (va_cpy (sR w) (sR w) sp dp n))) H1 → va_D A (NC cI cB cR ad (pR w (va_cpy (sR w) (sR w) sp dp n))) → va_S A H0 H1 locs1 → W p l e R s m args below meth c H1 locs1 cells slots Q (F0 m (pc + 3) ls rest)) : W p l e R s m args below meth c H locs cells slots Q (F0 m pc ls (.int (nI n) :: .int (nI dp) :: .ref (ad 3) :: .int (nI sp) :: .ref (ad 3) :: rest)) := by
  refine va_copyi hexec hb hml hown (hA_ hts hlink) (hA_ hts ac_native) (hA_ hts ac_static) (hA_ hts in_System) hK hP hD hS 3 3 0 0 (ty := .int) (NC_at (by decide)) (NC_at (by decide)) rfl rfl rfl (nI_pos (by omega)) (nI_pos (by omega)) (nI_pos (by omega)) (by rw [nI_clamp (by omega), nI_clamp (by omega)]; exact h4) (by rw [nI_clamp (by omega), nI_clamp (by omega)]; exact h5) (fun _ _ => rfl) hframes hlocals hdg (fun H1 locs1 h1 h2 h3 => ?_)
  rw [nI_clamp (by omega), nI_clamp (by omega), nI_clamp (by omega)] at h1 h2
  exact kk H1 locs1 (NC_pR _ ▸ h1) (NC_pR _ ▸ h2) h3
theorem nw_max (hexec : p.tables.exec = Jvm.exec) (hb : c.code = cc) (hml : c.maxLocals = ls.size) (hts : ∀ w ∈ c0 :: wA, w.before args s = true) (hown : s.vm.findClass own = some m.cls) (hlink : Cond.methodLink own index Lib.Math.max.name ∈ wA) (hframes : 1 ≤ R.frames) (hlocals : (rest.map fun v => v.category).sum + 13 ≤ R.locals) (hc : cells ≤ R.cells) (hs : slots ≤ R.slots) {x y v : Int32} (hv : (if x < y then y else x) = v) (hdg : decode cc pc = .ok (.invokestatic index, 3))
    (kk : W p l e R s m args below meth c H locs cells slots Q (F0 m (pc + 3) ls (.int v :: rest))) : W p l e R s m args below meth c H locs cells slots Q (F0 m pc ls (.int y :: .int x :: rest)) := by
  subst hv
  exact va_mmax hexec hb hml hown (hA_ hts hlink) (hA_ hts st_max) (hA_ hts in_Math) (hA_ hts kq_max) hframes hlocals hc hs hdg kk
theorem nw_min (hexec : p.tables.exec = Jvm.exec) (hb : c.code = cc) (hml : c.maxLocals = ls.size) (hts : ∀ w ∈ c0 :: wA, w.before args s = true) (hown : s.vm.findClass own = some m.cls) (hlink : Cond.methodLink own index Lib.Math.min.name ∈ wA) (hframes : 1 ≤ R.frames) (hlocals : (rest.map fun v => v.category).sum + 13 ≤ R.locals) (hc : cells ≤ R.cells) (hs : slots ≤ R.slots) {x y v : Int32} (hv : (if y < x then y else x) = v) (hdg : decode cc pc = .ok (.invokestatic index, 3))
    (kk : W p l e R s m args below meth c H locs cells slots Q (F0 m (pc + 3) ls (.int v :: rest))) : W p l e R s m args below meth c H locs cells slots Q (F0 m pc ls (.int y :: .int x :: rest)) := by
  subst hv
  exact va_mmin hexec hb hml hown (hA_ hts hlink) (hA_ hts st_min) (hA_ hts in_Math) (hA_ hts kq_min) hframes hlocals hc hs hdg kk
end CPY
theorem nI_max {a b : Nat} (ha : a < 2 ^ 31) (hb : b < 2 ^ 31) : (if nI a < nI b then nI b else nI a) = nI (max a b) := by
  by_cases h : a < b
  · rw [if_pos (nI_lt h hb), Nat.max_eq_right (by omega)]
  · rw [if_neg (nI_nlt (by omega) ha), Nat.max_eq_left (by omega)]
theorem nI_min {a b : Nat} (ha : a < 2 ^ 31) (hb : b < 2 ^ 31) : (if nI b < nI a then nI b else nI a) = nI (min a b) := by
  by_cases h : b < a
  · rw [if_pos (nI_lt h ha), Nat.min_eq_right (by omega)]
  · rw [if_neg (nI_nlt (by omega) hb), Nat.min_eq_left (by omega)]
/-- a count that goes down to -1 -/
def dn : Nat → Int32
  | 0 => -1
  | k + 1 => nI k
theorem dn_sub : ∀ k : Nat, nI k - nI 1 = dn k
  | 0 => by decide
  | k + 1 => pk_sub (by omega)
theorem dn_dec : ∀ k : Nat, nI k + Int32.ofInt (-1) = dn k
  | 0 => by decide
  | k + 1 => pk_m1 k
theorem dn_0 : dn 0 < 0 := by decide
theorem dn_lex {f g : Nat → Int32} {L k : Nat} (hk : k < L) (he : ∀ j, k < j → j < L → f j = g j) (h : wN (f k) < wN (g k)) : vN f 0 L < vN g 0 L := by
  obtain ⟨d, rfl⟩ : ∃ d, L = k + 1 + d := ⟨L - (k + 1), by omega⟩
  rw [vN_add f 0 (k + 1) d, vN_add g 0 (k + 1) d, vN_suc0 f k, vN_suc0 g k, vN_congr (f := f) (g := g) (a := 0 + (k + 1)) (b := 0 + (k + 1)) (n := d) (fun j hj => he _ (by omega) (by omega))]
  have h1 := vN_lt f 0 k
  have h2 : (wN (f k) + 1) * 4294967296 ^ k ≤ wN (g k) * 4294967296 ^ k := Nat.mul_le_mul_right _ h
  rw [Nat.add_mul, Nat.one_mul] at h2
  omega

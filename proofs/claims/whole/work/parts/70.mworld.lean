/-! THE REFERENCE'S WORLD: the object, its nineteen numbers (0 to 9 the registers, then value, other, product, rest, divisor, power, square, guess, unit), tape, out. One list of 42 cells at the addresses ad 0 .. ad 41 -/
abbrev Mt : Type := (Nat → Nat → Nat) × (Nat → Nat) × (Nat → Int32) × (Nat → Int32) × Nat × Nat × Nat
def mW (w : Mt) : Nat → Nat → Nat := w.1
def mL (w : Mt) : Nat → Nat := w.2.1
def mT (w : Mt) : Nat → Int32 := w.2.2.1
def mO (w : Mt) : Nat → Int32 := w.2.2.2.1
def mA (w : Mt) : Nat := w.2.2.2.2.1
def mB (w : Mt) : Nat := w.2.2.2.2.2.1
def mX (w : Mt) : Nat := w.2.2.2.2.2.2
def qW (w : Mt) (i : Nat) (f : Nat → Nat) : Mt := (fun j => if j = i then f else mW w j, mL w, mT w, mO w, mA w, mB w, mX w)
def qL (w : Mt) (i n : Nat) : Mt := (mW w, fun j => if j = i then n else mL w j, mT w, mO w, mA w, mB w, mX w)
def qT (w : Mt) (f : Nat → Int32) : Mt := (mW w, mL w, f, mO w, mA w, mB w, mX w)
def qO (w : Mt) (f : Nat → Int32) : Mt := (mW w, mL w, mT w, f, mA w, mB w, mX w)
def qA (w : Mt) (n : Nat) : Mt := (mW w, mL w, mT w, mO w, n, mB w, mX w)
def qB (w : Mt) (n : Nat) : Mt := (mW w, mL w, mT w, mO w, mA w, n, mX w)
def qX (w : Mt) (n : Nat) : Mt := (mW w, mL w, mT w, mO w, mA w, mB w, n)
def wm (cI cB cR : ClassId) (ad : Nat → Nat) (w : Mt) (k : Nat) : va_E := match k with
  | 0 => .inr (4, [.ref (ad 1), .ref (ad 24), .ref (ad 26), .ref (ad 28), .ref (ad 30), .ref (ad 32), .ref (ad 34), .ref (ad 36), .ref (ad 38), .ref (ad 40), .ref (ad 2), .ref (ad 3), .int (nI (mA w)), .int (nI (mB w)), .int (nI (mX w))])
  | 1 => .inl (cR, 10, .inr (.inr (.inr (.inr (fun i => some (ad (2 * i + 4)))))))
  | 2 => .inl (cB, 4096, .inl (mT w))
  | 3 => .inl (cB, 20000, .inl (mO w))
  | k + 4 => if k % 2 = 0 then .inr (5, [.ref (ad (k + 5)), .int (nI (mL w (k / 2)))]) else .inl (cI, 6800, .inl (fun q => nI (mW w (k / 2) q)))
def NM (cI cB cR : ClassId) (ad : Nat → Nat) (w : Mt) : va_W := (List.range 42).map (fun k => (ad k, wm cI cB cR ad w k))
abbrev tyM (cI cB cR : ClassId) : List (ClassId × FieldType) := [(cI, .int), (cB, .byte), (cR, .object "LimbWorksModel$Nat")]
section WDM
variable {cI cB cR : ClassId} {ad : Nat → Nat} {w w' : Mt}
theorem NM_len : (NM cI cB cR ad w).length = 42 := by simp [NM]
theorem NM_at {k : Nat} (h : k < 42) : (NM cI cB cR ad w)[k]? = some (ad k, wm cI cB cR ad w k) := by
  unfold NM
  rw [List.getElem?_map, List.getElem?_range h]
  rfl
theorem NM_set {k : Nat} {e : va_E} (hk : k < 42) (he : wm cI cB cR ad w' k = e) (ho : ∀ j, j ≠ k → wm cI cB cR ad w' j = wm cI cB cR ad w j) : (NM cI cB cR ad w).set k (ad k, e) = NM cI cB cR ad w' := by
  apply List.ext_getElem?
  intro j
  rw [List.getElem?_set]
  by_cases hj : k = j
  · subst hj
    rw [if_pos rfl, if_pos (by rw [NM_len]; exact hk), NM_at hk, he]
  · rw [if_neg hj]
    by_cases h36 : j < 42
    · rw [NM_at h36, NM_at h36, ho j (fun q => hj q.symm)]
    · rw [List.getElem?_eq_none (by rw [NM_len]; omega), List.getElem?_eq_none (by rw [NM_len]; omega)]
theorem wm_o (i : Nat) : wm cI cB cR ad w (2 * i + 4) = .inr (5, [.ref (ad (2 * i + 5)), .int (nI (mL w i))]) := by
  show (if 2 * i % 2 = 0 then (.inr (5, [.ref (ad (2 * i + 5)), .int (nI (mL w (2 * i / 2)))]) : va_E) else _) = _
  rw [if_pos (by omega), show 2 * i / 2 = i by omega]
theorem wm_w (i : Nat) : wm cI cB cR ad w (2 * i + 5) = .inl (cI, 6800, .inl (fun q => nI (mW w i q))) := by
  show (if (2 * i + 1) % 2 = 0 then (.inr (5, [.ref (ad (2 * i + 1 + 5)), .int (nI (mL w ((2 * i + 1) / 2)))]) : va_E) else .inl (cI, 6800, .inl (fun q => nI (mW w ((2 * i + 1) / 2) q)))) = _
  rw [if_neg (by omega), show (2 * i + 1) / 2 = i by omega]
theorem NM_o {i : Nat} (h : i < 19) : (NM cI cB cR ad w)[2 * i + 4]? = some (ad (2 * i + 4), .inr (5, [.ref (ad (2 * i + 5)), .int (nI (mL w i))])) := by rw [NM_at (by omega), wm_o]
theorem NM_w {i : Nat} (h : i < 19) : (NM cI cB cR ad w)[2 * i + 5]? = some (ad (2 * i + 5), .inl (cI, 6800, .inl (fun q => nI (mW w i q)))) := by rw [NM_at (by omega), wm_w]
theorem wm_hi {k : Nat} (hL : ∀ i, mL w' i = mL w i ∨ k = 2 * i) (hW : ∀ i, mW w' i = mW w i ∨ k = 2 * i + 1) {j : Nat} (hj : j + 4 ≠ k + 4) : wm cI cB cR ad w' (j + 4) = wm cI cB cR ad w (j + 4) := by
  show (if j % 2 = 0 then (.inr (5, [.ref (ad (j + 5)), .int (nI (mL w' (j / 2)))]) : va_E) else .inl (cI, 6800, .inl (fun q => nI (mW w' (j / 2) q)))) = (if j % 2 = 0 then (.inr (5, [.ref (ad (j + 5)), .int (nI (mL w (j / 2)))]) : va_E) else .inl (cI, 6800, .inl (fun q => nI (mW w (j / 2) q))))
  by_cases h : j % 2 = 0
  · rw [if_pos h, if_pos h]
    rcases hL (j / 2) with q | q
    · rw [q]
    · omega
  · rw [if_neg h, if_neg h]
    rcases hW (j / 2) with q | q
    · rw [q]
    · omega
theorem NM_qL {i n : Nat} (hi : i < 19) : (NM cI cB cR ad w).set (2 * i + 4) (ad (2 * i + 4), .inr (5, [.ref (ad (2 * i + 5)), .int (nI n)])) = NM cI cB cR ad (qL w i n) := by
  refine NM_set (by omega) ?_ ?_
  · rw [wm_o]
    show (.inr (5, [.ref (ad (2 * i + 5)), .int (nI (if i = i then n else mL w i))]) : va_E) = _
    rw [if_pos rfl]
  · intro j hj
    match j, hj with
    | 0, _ | 1, _ | 2, _ | 3, _ => rfl
    | j + 4, hj =>
      refine wm_hi (w := w) (w' := qL w i n) (k := 2 * i) (fun a => ?_) (fun a => Or.inl rfl) hj
      show (if a = i then n else mL w a) = mL w a ∨ _
      by_cases h : a = i
      · right; rw [h]
      · left; rw [if_neg h]
theorem NM_qW {i : Nat} {f : Nat → Nat} (hi : i < 19) : (NM cI cB cR ad w).set (2 * i + 5) (ad (2 * i + 5), .inl (cI, 6800, .inl (fun q => nI (f q)))) = NM cI cB cR ad (qW w i f) := by
  refine NM_set (by omega) ?_ ?_
  · rw [wm_w]
    show (.inl (cI, 6800, .inl (fun q => nI ((if i = i then f else mW w i) q))) : va_E) = _
    rw [if_pos rfl]
  · intro j hj
    match j, hj with
    | 0, _ | 1, _ | 2, _ | 3, _ => rfl
    | j + 4, hj =>
      refine wm_hi (w := w) (w' := qW w i f) (k := 2 * i + 1) (fun a => Or.inl rfl) (fun a => ?_) hj
      show (if a = i then f else mW w a) = mW w a ∨ _
      by_cases h : a = i
      · right; rw [h]
      · left; rw [if_neg h]
theorem NM_qT (f : Nat → Int32) : (NM cI cB cR ad w).set 2 (ad 2, .inl (cB, 4096, .inl f)) = NM cI cB cR ad (qT w f) := by
  refine NM_set (by omega) rfl ?_
  intro j hj
  match j, hj with
  | 0, _ | 1, _ | 3, _ => rfl
  | 2, hj => exact absurd rfl hj
  | j + 4, hj => rfl
theorem NM_qO (f : Nat → Int32) : (NM cI cB cR ad w).set 3 (ad 3, .inl (cB, 20000, .inl f)) = NM cI cB cR ad (qO w f) := by
  refine NM_set (by omega) rfl ?_
  intro j hj
  match j, hj with
  | 0, _ | 1, _ | 2, _ => rfl
  | 3, hj => exact absurd rfl hj
  | j + 4, hj => rfl
theorem NM_qA (n : Nat) : (NM cI cB cR ad w).set 0 (ad 0, .inr (4, [.ref (ad 1), .ref (ad 24), .ref (ad 26), .ref (ad 28), .ref (ad 30), .ref (ad 32), .ref (ad 34), .ref (ad 36), .ref (ad 38), .ref (ad 40), .ref (ad 2), .ref (ad 3), .int (nI n), .int (nI (mB w)), .int (nI (mX w))])) = NM cI cB cR ad (qA w n) := by
  refine NM_set (by omega) rfl ?_
  intro j hj
  match j, hj with
  | 0, hj => exact absurd rfl hj
  | 1, _ | 2, _ | 3, _ => rfl
  | j + 4, hj => rfl
theorem NM_qB (n : Nat) : (NM cI cB cR ad w).set 0 (ad 0, .inr (4, [.ref (ad 1), .ref (ad 24), .ref (ad 26), .ref (ad 28), .ref (ad 30), .ref (ad 32), .ref (ad 34), .ref (ad 36), .ref (ad 38), .ref (ad 40), .ref (ad 2), .ref (ad 3), .int (nI (mA w)), .int (nI n), .int (nI (mX w))])) = NM cI cB cR ad (qB w n) := by
  refine NM_set (by omega) rfl ?_
  intro j hj
  match j, hj with
  | 0, hj => exact absurd rfl hj
  | 1, _ | 2, _ | 3, _ => rfl
  | j + 4, hj => rfl
theorem NM_qX (n : Nat) : (NM cI cB cR ad w).set 0 (ad 0, .inr (4, [.ref (ad 1), .ref (ad 24), .ref (ad 26), .ref (ad 28), .ref (ad 30), .ref (ad 32), .ref (ad 34), .ref (ad 36), .ref (ad 38), .ref (ad 40), .ref (ad 2), .ref (ad 3), .int (nI (mA w)), .int (nI (mB w)), .int (nI n)])) = NM cI cB cR ad (qX w n) := by
  refine NM_set (by omega) rfl ?_
  intro j hj
  match j, hj with
  | 0, hj => exact absurd rfl hj
  | 1, _ | 2, _ | 3, _ => rfl
  | j + 4, hj => rfl
theorem mL_qL (w : Mt) (i n : Nat) : mL (qL w i n) i = n := if_pos rfl
theorem mL_qLn (w : Mt) {i j : Nat} (n : Nat) (h : j ≠ i) : mL (qL w i n) j = mL w j := if_neg h
theorem mW_qW (w : Mt) (i : Nat) (f : Nat → Nat) : mW (qW w i f) i = f := if_pos rfl
theorem mW_qWn (w : Mt) {i j : Nat} (f : Nat → Nat) (h : j ≠ i) : mW (qW w i f) j = mW w j := if_neg h
theorem qL_qL (w : Mt) (i a b : Nat) : qL (qL w i a) i b = qL w i b := by
  have : (fun j => if j = i then b else (if j = i then a else mL w j)) = fun j => if j = i then b else mL w j := by
    funext j
    by_cases h : j = i
    · rw [if_pos h, if_pos h]
    · rw [if_neg h, if_neg h, if_neg h]
  show (mW w, (fun j => if j = i then b else (if j = i then a else mL w j)), _) = _
  rw [this]
  rfl
theorem qW_qW (w : Mt) (i : Nat) (f g : Nat → Nat) : qW (qW w i f) i g = qW w i g := by
  have : (fun j => if j = i then g else (if j = i then f else mW w j)) = fun j => if j = i then g else mW w j := by
    funext j
    by_cases h : j = i
    · rw [if_pos h, if_pos h]
    · rw [if_neg h, if_neg h, if_neg h]
  show ((fun j => if j = i then g else (if j = i then f else mW w j)), _) = _
  rw [this]
  rfl
theorem qL_self (w : Mt) (i : Nat) : qL w i (mL w i) = w := by
  have : (fun j => if j = i then mL w i else mL w j) = mL w := by
    funext j
    by_cases h : j = i
    · rw [if_pos h, h]
    · rw [if_neg h]
  show (mW w, (fun j => if j = i then mL w i else mL w j), _) = _
  rw [this]
  rfl
theorem qW_self (w : Mt) (i : Nat) : qW w i (mW w i) = w := by
  have : (fun j => if j = i then mW w i else mW w j) = mW w := by
    funext j
    by_cases h : j = i
    · rw [if_pos h, h]
    · rw [if_neg h]
  show ((fun j => if j = i then mW w i else mW w j), _) = _
  rw [this]
  rfl
/-- a word laid -/
def upM (f : Nat → Nat) (k x : Nat) : Nat → Nat := fun j => if j = k then x else f j
theorem upM_nI (f : Nat → Nat) (k x : Nat) : upd (fun q => nI (f q)) k (nI x) = fun q => nI (upM f k x q) := by
  funext q
  show (if q = k then nI x else nI (f q)) = nI (if q = k then x else f q)
  split <;> rfl
theorem cpM_nI (f g : Nat → Nat) (a b n : Nat) : va_cpy (fun q => nI (f q)) (fun q => nI (g q)) a b n = fun q => nI (va_cpy f g a b n q) := by
  funext q
  show (if b ≤ q ∧ q < b + n then nI (f (a + (q - b))) else nI (g q)) = nI (if b ≤ q ∧ q < b + n then f (a + (q - b)) else g q)
  split <;> rfl
end WDM
section WRM
variable {p : Program} {l : Launch} {e : Env} {R : Room} {s : State} {m : MethodId} {args : Array Value} {below : List Frame} {meth : Method} {c : Code} {H : Heap} {locs : List Loc} {cells slots : Nat} {Q : State → Prop}
variable {cc : ByteArray} {pc : Nat} {ls : Array Slot} {rest : List Value} {D : va_G} {A : Nat → Prop} {H0 : Heap} {cI cB cR : ClassId} {ad : Nat → Nat} {w : Mt} {own : String} {index : Nat} {c0 : Cond}
theorem mw_gL (hexec : p.tables.exec = Jvm.exec) (hb : c.code = cc) (hts : ∀ w ∈ c0 :: wA, w.before args s = true) (hown : s.vm.findClass own = some m.cls) (hK : va_K D clA (tyM cI cB cR) s) (hP : va_P D clA (NM cI cB cR ad w) H) {i : Nat} (hi : i < 19) {n : Nat} (hv : mL w i = n) (hlink : Cond.fieldLink own index "LimbWorksModel$Nat" "n" "I" ∈ wA) (hdg : decode cc pc = .ok (.getfield index, 3))
    (kk : W p l e R s m args below meth c H locs cells slots Q (F0 m (pc + 3) ls (.int (nI n) :: rest))) : W p l e R s m args below meth c H locs cells slots Q (F0 m pc ls (.ref (ad (2 * i + 4)) :: rest)) := by
  subst hv
  exact va_get (ref := "LimbWorksModel$Nat") (C := R_Mn) (T := F_Mn) (N := 2) (ci := 5) hexec hb hts (fun w h => List.mem_cons_of_mem _ (i_Mn w h)) hown hK hP (2 * i + 4) (NM_o hi) rfl 1 (by decide) (hA_ hts hlink) (fun _ h => h) rfl hdg kk
theorem mw_gW (hexec : p.tables.exec = Jvm.exec) (hb : c.code = cc) (hts : ∀ w ∈ c0 :: wA, w.before args s = true) (hown : s.vm.findClass own = some m.cls) (hK : va_K D clA (tyM cI cB cR) s) (hP : va_P D clA (NM cI cB cR ad w) H) {i : Nat} (hi : i < 19) (hlink : Cond.fieldLink own index "LimbWorksModel$Nat" "w" "[I" ∈ wA) (hdg : decode cc pc = .ok (.getfield index, 3))
    (kk : W p l e R s m args below meth c H locs cells slots Q (F0 m (pc + 3) ls (.ref (ad (2 * i + 5)) :: rest))) : W p l e R s m args below meth c H locs cells slots Q (F0 m pc ls (.ref (ad (2 * i + 4)) :: rest)) :=
  va_get (ref := "LimbWorksModel$Nat") (C := R_Mn) (T := F_Mn) (N := 2) (ci := 5) hexec hb hts (fun w h => List.mem_cons_of_mem _ (i_Mn w h)) hown hK hP (2 * i + 4) (NM_o hi) rfl 0 (by decide) (hA_ hts hlink) (fun _ h => h) rfl hdg kk
theorem mw_gF0 (hexec : p.tables.exec = Jvm.exec) (hb : c.code = cc) (hts : ∀ w ∈ c0 :: wA, w.before args s = true) (hown : s.vm.findClass own = some m.cls) (hK : va_K D clA (tyM cI cB cR) s) (hP : va_P D clA (NM cI cB cR ad w) H) (hlink : Cond.fieldLink own index "LimbWorksModel" "register" "[LLimbWorksModel$Nat;" ∈ wA) (hdg : decode cc pc = .ok (.getfield index, 3))
    (kk : W p l e R s m args below meth c H locs cells slots Q (F0 m (pc + 3) ls (.ref (ad 1) :: rest))) : W p l e R s m args below meth c H locs cells slots Q (F0 m pc ls (.ref (ad 0) :: rest)) :=
  va_get (ref := "LimbWorksModel") (C := R_Mo) (T := F_Mo) (N := 15) (ci := 4) hexec hb hts (fun w h => List.mem_cons_of_mem _ (i_Mo w h)) hown hK hP 0 (NM_at (by decide)) rfl 0 (by decide) (hA_ hts hlink) (fun _ h => h) rfl hdg kk
theorem mw_gF1 (hexec : p.tables.exec = Jvm.exec) (hb : c.code = cc) (hts : ∀ w ∈ c0 :: wA, w.before args s = true) (hown : s.vm.findClass own = some m.cls) (hK : va_K D clA (tyM cI cB cR) s) (hP : va_P D clA (NM cI cB cR ad w) H) (hlink : Cond.fieldLink own index "LimbWorksModel" "value" "LLimbWorksModel$Nat;" ∈ wA) (hdg : decode cc pc = .ok (.getfield index, 3))
    (kk : W p l e R s m args below meth c H locs cells slots Q (F0 m (pc + 3) ls (.ref (ad 24) :: rest))) : W p l e R s m args below meth c H locs cells slots Q (F0 m pc ls (.ref (ad 0) :: rest)) :=
  va_get (ref := "LimbWorksModel") (C := R_Mo) (T := F_Mo) (N := 15) (ci := 4) hexec hb hts (fun w h => List.mem_cons_of_mem _ (i_Mo w h)) hown hK hP 0 (NM_at (by decide)) rfl 1 (by decide) (hA_ hts hlink) (fun _ h => h) rfl hdg kk
theorem mw_gF2 (hexec : p.tables.exec = Jvm.exec) (hb : c.code = cc) (hts : ∀ w ∈ c0 :: wA, w.before args s = true) (hown : s.vm.findClass own = some m.cls) (hK : va_K D clA (tyM cI cB cR) s) (hP : va_P D clA (NM cI cB cR ad w) H) (hlink : Cond.fieldLink own index "LimbWorksModel" "other" "LLimbWorksModel$Nat;" ∈ wA) (hdg : decode cc pc = .ok (.getfield index, 3))
    (kk : W p l e R s m args below meth c H locs cells slots Q (F0 m (pc + 3) ls (.ref (ad 26) :: rest))) : W p l e R s m args below meth c H locs cells slots Q (F0 m pc ls (.ref (ad 0) :: rest)) :=
  va_get (ref := "LimbWorksModel") (C := R_Mo) (T := F_Mo) (N := 15) (ci := 4) hexec hb hts (fun w h => List.mem_cons_of_mem _ (i_Mo w h)) hown hK hP 0 (NM_at (by decide)) rfl 2 (by decide) (hA_ hts hlink) (fun _ h => h) rfl hdg kk
theorem mw_gF3 (hexec : p.tables.exec = Jvm.exec) (hb : c.code = cc) (hts : ∀ w ∈ c0 :: wA, w.before args s = true) (hown : s.vm.findClass own = some m.cls) (hK : va_K D clA (tyM cI cB cR) s) (hP : va_P D clA (NM cI cB cR ad w) H) (hlink : Cond.fieldLink own index "LimbWorksModel" "product" "LLimbWorksModel$Nat;" ∈ wA) (hdg : decode cc pc = .ok (.getfield index, 3))
    (kk : W p l e R s m args below meth c H locs cells slots Q (F0 m (pc + 3) ls (.ref (ad 28) :: rest))) : W p l e R s m args below meth c H locs cells slots Q (F0 m pc ls (.ref (ad 0) :: rest)) :=
  va_get (ref := "LimbWorksModel") (C := R_Mo) (T := F_Mo) (N := 15) (ci := 4) hexec hb hts (fun w h => List.mem_cons_of_mem _ (i_Mo w h)) hown hK hP 0 (NM_at (by decide)) rfl 3 (by decide) (hA_ hts hlink) (fun _ h => h) rfl hdg kk
theorem mw_gF4 (hexec : p.tables.exec = Jvm.exec) (hb : c.code = cc) (hts : ∀ w ∈ c0 :: wA, w.before args s = true) (hown : s.vm.findClass own = some m.cls) (hK : va_K D clA (tyM cI cB cR) s) (hP : va_P D clA (NM cI cB cR ad w) H) (hlink : Cond.fieldLink own index "LimbWorksModel" "rest" "LLimbWorksModel$Nat;" ∈ wA) (hdg : decode cc pc = .ok (.getfield index, 3))
    (kk : W p l e R s m args below meth c H locs cells slots Q (F0 m (pc + 3) ls (.ref (ad 30) :: rest))) : W p l e R s m args below meth c H locs cells slots Q (F0 m pc ls (.ref (ad 0) :: rest)) :=
  va_get (ref := "LimbWorksModel") (C := R_Mo) (T := F_Mo) (N := 15) (ci := 4) hexec hb hts (fun w h => List.mem_cons_of_mem _ (i_Mo w h)) hown hK hP 0 (NM_at (by decide)) rfl 4 (by decide) (hA_ hts hlink) (fun _ h => h) rfl hdg kk
theorem mw_gF5 (hexec : p.tables.exec = Jvm.exec) (hb : c.code = cc) (hts : ∀ w ∈ c0 :: wA, w.before args s = true) (hown : s.vm.findClass own = some m.cls) (hK : va_K D clA (tyM cI cB cR) s) (hP : va_P D clA (NM cI cB cR ad w) H) (hlink : Cond.fieldLink own index "LimbWorksModel" "divisor" "LLimbWorksModel$Nat;" ∈ wA) (hdg : decode cc pc = .ok (.getfield index, 3))
    (kk : W p l e R s m args below meth c H locs cells slots Q (F0 m (pc + 3) ls (.ref (ad 32) :: rest))) : W p l e R s m args below meth c H locs cells slots Q (F0 m pc ls (.ref (ad 0) :: rest)) :=
  va_get (ref := "LimbWorksModel") (C := R_Mo) (T := F_Mo) (N := 15) (ci := 4) hexec hb hts (fun w h => List.mem_cons_of_mem _ (i_Mo w h)) hown hK hP 0 (NM_at (by decide)) rfl 5 (by decide) (hA_ hts hlink) (fun _ h => h) rfl hdg kk
theorem mw_gF6 (hexec : p.tables.exec = Jvm.exec) (hb : c.code = cc) (hts : ∀ w ∈ c0 :: wA, w.before args s = true) (hown : s.vm.findClass own = some m.cls) (hK : va_K D clA (tyM cI cB cR) s) (hP : va_P D clA (NM cI cB cR ad w) H) (hlink : Cond.fieldLink own index "LimbWorksModel" "power" "LLimbWorksModel$Nat;" ∈ wA) (hdg : decode cc pc = .ok (.getfield index, 3))
    (kk : W p l e R s m args below meth c H locs cells slots Q (F0 m (pc + 3) ls (.ref (ad 34) :: rest))) : W p l e R s m args below meth c H locs cells slots Q (F0 m pc ls (.ref (ad 0) :: rest)) :=
  va_get (ref := "LimbWorksModel") (C := R_Mo) (T := F_Mo) (N := 15) (ci := 4) hexec hb hts (fun w h => List.mem_cons_of_mem _ (i_Mo w h)) hown hK hP 0 (NM_at (by decide)) rfl 6 (by decide) (hA_ hts hlink) (fun _ h => h) rfl hdg kk
theorem mw_gF7 (hexec : p.tables.exec = Jvm.exec) (hb : c.code = cc) (hts : ∀ w ∈ c0 :: wA, w.before args s = true) (hown : s.vm.findClass own = some m.cls) (hK : va_K D clA (tyM cI cB cR) s) (hP : va_P D clA (NM cI cB cR ad w) H) (hlink : Cond.fieldLink own index "LimbWorksModel" "square" "LLimbWorksModel$Nat;" ∈ wA) (hdg : decode cc pc = .ok (.getfield index, 3))
    (kk : W p l e R s m args below meth c H locs cells slots Q (F0 m (pc + 3) ls (.ref (ad 36) :: rest))) : W p l e R s m args below meth c H locs cells slots Q (F0 m pc ls (.ref (ad 0) :: rest)) :=
  va_get (ref := "LimbWorksModel") (C := R_Mo) (T := F_Mo) (N := 15) (ci := 4) hexec hb hts (fun w h => List.mem_cons_of_mem _ (i_Mo w h)) hown hK hP 0 (NM_at (by decide)) rfl 7 (by decide) (hA_ hts hlink) (fun _ h => h) rfl hdg kk
theorem mw_gF8 (hexec : p.tables.exec = Jvm.exec) (hb : c.code = cc) (hts : ∀ w ∈ c0 :: wA, w.before args s = true) (hown : s.vm.findClass own = some m.cls) (hK : va_K D clA (tyM cI cB cR) s) (hP : va_P D clA (NM cI cB cR ad w) H) (hlink : Cond.fieldLink own index "LimbWorksModel" "guess" "LLimbWorksModel$Nat;" ∈ wA) (hdg : decode cc pc = .ok (.getfield index, 3))
    (kk : W p l e R s m args below meth c H locs cells slots Q (F0 m (pc + 3) ls (.ref (ad 38) :: rest))) : W p l e R s m args below meth c H locs cells slots Q (F0 m pc ls (.ref (ad 0) :: rest)) :=
  va_get (ref := "LimbWorksModel") (C := R_Mo) (T := F_Mo) (N := 15) (ci := 4) hexec hb hts (fun w h => List.mem_cons_of_mem _ (i_Mo w h)) hown hK hP 0 (NM_at (by decide)) rfl 8 (by decide) (hA_ hts hlink) (fun _ h => h) rfl hdg kk
theorem mw_gF9 (hexec : p.tables.exec = Jvm.exec) (hb : c.code = cc) (hts : ∀ w ∈ c0 :: wA, w.before args s = true) (hown : s.vm.findClass own = some m.cls) (hK : va_K D clA (tyM cI cB cR) s) (hP : va_P D clA (NM cI cB cR ad w) H) (hlink : Cond.fieldLink own index "LimbWorksModel" "unit" "LLimbWorksModel$Nat;" ∈ wA) (hdg : decode cc pc = .ok (.getfield index, 3))
    (kk : W p l e R s m args below meth c H locs cells slots Q (F0 m (pc + 3) ls (.ref (ad 40) :: rest))) : W p l e R s m args below meth c H locs cells slots Q (F0 m pc ls (.ref (ad 0) :: rest)) :=
  va_get (ref := "LimbWorksModel") (C := R_Mo) (T := F_Mo) (N := 15) (ci := 4) hexec hb hts (fun w h => List.mem_cons_of_mem _ (i_Mo w h)) hown hK hP 0 (NM_at (by decide)) rfl 9 (by decide) (hA_ hts hlink) (fun _ h => h) rfl hdg kk
theorem mw_gF10 (hexec : p.tables.exec = Jvm.exec) (hb : c.code = cc) (hts : ∀ w ∈ c0 :: wA, w.before args s = true) (hown : s.vm.findClass own = some m.cls) (hK : va_K D clA (tyM cI cB cR) s) (hP : va_P D clA (NM cI cB cR ad w) H) (hlink : Cond.fieldLink own index "LimbWorksModel" "tape" "[B" ∈ wA) (hdg : decode cc pc = .ok (.getfield index, 3))
    (kk : W p l e R s m args below meth c H locs cells slots Q (F0 m (pc + 3) ls (.ref (ad 2) :: rest))) : W p l e R s m args below meth c H locs cells slots Q (F0 m pc ls (.ref (ad 0) :: rest)) :=
  va_get (ref := "LimbWorksModel") (C := R_Mo) (T := F_Mo) (N := 15) (ci := 4) hexec hb hts (fun w h => List.mem_cons_of_mem _ (i_Mo w h)) hown hK hP 0 (NM_at (by decide)) rfl 10 (by decide) (hA_ hts hlink) (fun _ h => h) rfl hdg kk
theorem mw_gF11 (hexec : p.tables.exec = Jvm.exec) (hb : c.code = cc) (hts : ∀ w ∈ c0 :: wA, w.before args s = true) (hown : s.vm.findClass own = some m.cls) (hK : va_K D clA (tyM cI cB cR) s) (hP : va_P D clA (NM cI cB cR ad w) H) (hlink : Cond.fieldLink own index "LimbWorksModel" "out" "[B" ∈ wA) (hdg : decode cc pc = .ok (.getfield index, 3))
    (kk : W p l e R s m args below meth c H locs cells slots Q (F0 m (pc + 3) ls (.ref (ad 3) :: rest))) : W p l e R s m args below meth c H locs cells slots Q (F0 m pc ls (.ref (ad 0) :: rest)) :=
  va_get (ref := "LimbWorksModel") (C := R_Mo) (T := F_Mo) (N := 15) (ci := 4) hexec hb hts (fun w h => List.mem_cons_of_mem _ (i_Mo w h)) hown hK hP 0 (NM_at (by decide)) rfl 11 (by decide) (hA_ hts hlink) (fun _ h => h) rfl hdg kk
theorem mw_gF12 (hexec : p.tables.exec = Jvm.exec) (hb : c.code = cc) (hts : ∀ w ∈ c0 :: wA, w.before args s = true) (hown : s.vm.findClass own = some m.cls) (hK : va_K D clA (tyM cI cB cR) s) (hP : va_P D clA (NM cI cB cR ad w) H) {n : Nat} (hv : mA w = n) (hlink : Cond.fieldLink own index "LimbWorksModel" "tapeSize" "I" ∈ wA) (hdg : decode cc pc = .ok (.getfield index, 3))
    (kk : W p l e R s m args below meth c H locs cells slots Q (F0 m (pc + 3) ls (.int (nI n) :: rest))) : W p l e R s m args below meth c H locs cells slots Q (F0 m pc ls (.ref (ad 0) :: rest)) := by
  subst hv
  exact va_get (ref := "LimbWorksModel") (C := R_Mo) (T := F_Mo) (N := 15) (ci := 4) hexec hb hts (fun w h => List.mem_cons_of_mem _ (i_Mo w h)) hown hK hP 0 (NM_at (by decide)) rfl 12 (by decide) (hA_ hts hlink) (fun _ h => h) rfl hdg kk
theorem mw_gF13 (hexec : p.tables.exec = Jvm.exec) (hb : c.code = cc) (hts : ∀ w ∈ c0 :: wA, w.before args s = true) (hown : s.vm.findClass own = some m.cls) (hK : va_K D clA (tyM cI cB cR) s) (hP : va_P D clA (NM cI cB cR ad w) H) {n : Nat} (hv : mB w = n) (hlink : Cond.fieldLink own index "LimbWorksModel" "outSize" "I" ∈ wA) (hdg : decode cc pc = .ok (.getfield index, 3))
    (kk : W p l e R s m args below meth c H locs cells slots Q (F0 m (pc + 3) ls (.int (nI n) :: rest))) : W p l e R s m args below meth c H locs cells slots Q (F0 m pc ls (.ref (ad 0) :: rest)) := by
  subst hv
  exact va_get (ref := "LimbWorksModel") (C := R_Mo) (T := F_Mo) (N := 15) (ci := 4) hexec hb hts (fun w h => List.mem_cons_of_mem _ (i_Mo w h)) hown hK hP 0 (NM_at (by decide)) rfl 13 (by decide) (hA_ hts hlink) (fun _ h => h) rfl hdg kk
theorem mw_gF14 (hexec : p.tables.exec = Jvm.exec) (hb : c.code = cc) (hts : ∀ w ∈ c0 :: wA, w.before args s = true) (hown : s.vm.findClass own = some m.cls) (hK : va_K D clA (tyM cI cB cR) s) (hP : va_P D clA (NM cI cB cR ad w) H) {n : Nat} (hv : mX w = n) (hlink : Cond.fieldLink own index "LimbWorksModel" "thrown" "I" ∈ wA) (hdg : decode cc pc = .ok (.getfield index, 3))
    (kk : W p l e R s m args below meth c H locs cells slots Q (F0 m (pc + 3) ls (.int (nI n) :: rest))) : W p l e R s m args below meth c H locs cells slots Q (F0 m pc ls (.ref (ad 0) :: rest)) := by
  subst hv
  exact va_get (ref := "LimbWorksModel") (C := R_Mo) (T := F_Mo) (N := 15) (ci := 4) hexec hb hts (fun w h => List.mem_cons_of_mem _ (i_Mo w h)) hown hK hP 0 (NM_at (by decide)) rfl 14 (by decide) (hA_ hts hlink) (fun _ h => h) rfl hdg kk
theorem mw_pL (hexec : p.tables.exec = Jvm.exec) (hb : c.code = cc) (hts : ∀ w ∈ c0 :: wA, w.before args s = true) (hown : s.vm.findClass own = some m.cls) (hK : va_K D clA (tyM cI cB cR) s) (hP : va_P D clA (NM cI cB cR ad w) H) (hD : va_D A (NM cI cB cR ad w)) (hS : va_S A H0 H locs) {i : Nat} (hi : i < 19) {n : Nat} (hlink : Cond.fieldLink own index "LimbWorksModel$Nat" "n" "I" ∈ wA) (hdg : decode cc pc = .ok (.putfield index, 3))
    (kk : ∀ (H1 : Heap) (locs1 : List Loc), va_P D clA (NM cI cB cR ad (qL w i n)) H1 → va_D A (NM cI cB cR ad (qL w i n)) → va_S A H0 H1 locs1 → W p l e R s m args below meth c H1 locs1 cells slots Q (F0 m (pc + 3) ls rest)) : W p l e R s m args below meth c H locs cells slots Q (F0 m pc ls (.int (nI n) :: .ref (ad (2 * i + 4)) :: rest)) :=
  va_put (ref := "LimbWorksModel$Nat") (C := R_Mn) (T := F_Mn) (N := 2) (ci := 5) (ty := .int) hexec hb hts (fun w h => List.mem_cons_of_mem _ (i_Mn w h)) t_Mn t_Mn_ok n_Mn hown hK hP hD hS (2 * i + 4) (NM_o hi) rfl 1 (by decide) (hA_ hts hlink) (fun _ h => h) rfl (by decide +kernel) rfl rfl (Nat.le_of_ble_eq_true rfl) hdg
    (fun H1 locs1 h1 h2 h3 => kk H1 locs1 (NM_qL hi ▸ h1) (NM_qL hi ▸ h2) h3)
theorem mw_pA (hexec : p.tables.exec = Jvm.exec) (hb : c.code = cc) (hts : ∀ w ∈ c0 :: wA, w.before args s = true) (hown : s.vm.findClass own = some m.cls) (hK : va_K D clA (tyM cI cB cR) s) (hP : va_P D clA (NM cI cB cR ad w) H) (hD : va_D A (NM cI cB cR ad w)) (hS : va_S A H0 H locs) {n : Nat} (hlink : Cond.fieldLink own index "LimbWorksModel" "tapeSize" "I" ∈ wA) (hdg : decode cc pc = .ok (.putfield index, 3))
    (kk : ∀ (H1 : Heap) (locs1 : List Loc), va_P D clA (NM cI cB cR ad (qA w n)) H1 → va_D A (NM cI cB cR ad (qA w n)) → va_S A H0 H1 locs1 → W p l e R s m args below meth c H1 locs1 cells slots Q (F0 m (pc + 3) ls rest)) : W p l e R s m args below meth c H locs cells slots Q (F0 m pc ls (.int (nI n) :: .ref (ad 0) :: rest)) :=
  va_put (ref := "LimbWorksModel") (C := R_Mo) (T := F_Mo) (N := 15) (ci := 4) (ty := .int) hexec hb hts (fun w h => List.mem_cons_of_mem _ (i_Mo w h)) t_Mo t_Mo_ok n_Mo hown hK hP hD hS 0 (NM_at (by decide)) rfl 12 (by decide) (hA_ hts hlink) (fun _ h => h) rfl (by decide +kernel) rfl rfl (Nat.le_of_ble_eq_true rfl) hdg
    (fun H1 locs1 h1 h2 h3 => kk H1 locs1 (NM_qA n ▸ h1) (NM_qA n ▸ h2) h3)
theorem mw_pB (hexec : p.tables.exec = Jvm.exec) (hb : c.code = cc) (hts : ∀ w ∈ c0 :: wA, w.before args s = true) (hown : s.vm.findClass own = some m.cls) (hK : va_K D clA (tyM cI cB cR) s) (hP : va_P D clA (NM cI cB cR ad w) H) (hD : va_D A (NM cI cB cR ad w)) (hS : va_S A H0 H locs) {n : Nat} (hlink : Cond.fieldLink own index "LimbWorksModel" "outSize" "I" ∈ wA) (hdg : decode cc pc = .ok (.putfield index, 3))
    (kk : ∀ (H1 : Heap) (locs1 : List Loc), va_P D clA (NM cI cB cR ad (qB w n)) H1 → va_D A (NM cI cB cR ad (qB w n)) → va_S A H0 H1 locs1 → W p l e R s m args below meth c H1 locs1 cells slots Q (F0 m (pc + 3) ls rest)) : W p l e R s m args below meth c H locs cells slots Q (F0 m pc ls (.int (nI n) :: .ref (ad 0) :: rest)) :=
  va_put (ref := "LimbWorksModel") (C := R_Mo) (T := F_Mo) (N := 15) (ci := 4) (ty := .int) hexec hb hts (fun w h => List.mem_cons_of_mem _ (i_Mo w h)) t_Mo t_Mo_ok n_Mo hown hK hP hD hS 0 (NM_at (by decide)) rfl 13 (by decide) (hA_ hts hlink) (fun _ h => h) rfl (by decide +kernel) rfl rfl (Nat.le_of_ble_eq_true rfl) hdg
    (fun H1 locs1 h1 h2 h3 => kk H1 locs1 (NM_qB n ▸ h1) (NM_qB n ▸ h2) h3)
theorem mw_pX (hexec : p.tables.exec = Jvm.exec) (hb : c.code = cc) (hts : ∀ w ∈ c0 :: wA, w.before args s = true) (hown : s.vm.findClass own = some m.cls) (hK : va_K D clA (tyM cI cB cR) s) (hP : va_P D clA (NM cI cB cR ad w) H) (hD : va_D A (NM cI cB cR ad w)) (hS : va_S A H0 H locs) {n : Nat} (hlink : Cond.fieldLink own index "LimbWorksModel" "thrown" "I" ∈ wA) (hdg : decode cc pc = .ok (.putfield index, 3))
    (kk : ∀ (H1 : Heap) (locs1 : List Loc), va_P D clA (NM cI cB cR ad (qX w n)) H1 → va_D A (NM cI cB cR ad (qX w n)) → va_S A H0 H1 locs1 → W p l e R s m args below meth c H1 locs1 cells slots Q (F0 m (pc + 3) ls rest)) : W p l e R s m args below meth c H locs cells slots Q (F0 m pc ls (.int (nI n) :: .ref (ad 0) :: rest)) :=
  va_put (ref := "LimbWorksModel") (C := R_Mo) (T := F_Mo) (N := 15) (ci := 4) (ty := .int) hexec hb hts (fun w h => List.mem_cons_of_mem _ (i_Mo w h)) t_Mo t_Mo_ok n_Mo hown hK hP hD hS 0 (NM_at (by decide)) rfl 14 (by decide) (hA_ hts hlink) (fun _ h => h) rfl (by decide +kernel) rfl rfl (Nat.le_of_ble_eq_true rfl) hdg
    (fun H1 locs1 h1 h2 h3 => kk H1 locs1 (NM_qX n ▸ h1) (NM_qX n ▸ h2) h3)
theorem mw_lW (hexec : p.tables.exec = Jvm.exec) (hb : c.code = cc) (hK : va_K D clA (tyM cI cB cR) s) (hP : va_P D clA (NM cI cB cR ad w) H) {i : Nat} (hi : i < 19) {j : Nat} (hj : j < 6800) {x : Nat} (hv : mW w i j = x) (hdg : decode cc pc = .ok (.iaload, 1))
    (kk : W p l e R s m args below meth c H locs cells slots Q (F0 m (pc + 1) ls (.int (nI x) :: rest))) : W p l e R s m args below meth c H locs cells slots Q (F0 m pc ls (.int (nI j) :: .ref (ad (2 * i + 5)) :: rest)) := by
  subst hv
  refine va_iald hexec hb hK hP (2 * i + 5) 0 (NM_w hi) rfl (vp_in_nI hj (by decide)) hdg ?_
  rw [nI_clamp (by omega)]
  exact kk
theorem mw_lT (hexec : p.tables.exec = Jvm.exec) (hb : c.code = cc) (hK : va_K D clA (tyM cI cB cR) s) (hP : va_P D clA (NM cI cB cR ad w) H) {j : Nat} (hj : j < 4096) {x : Int32} (hv : mT w j = x) (hdg : decode cc pc = .ok (.baload, 1))
    (kk : W p l e R s m args below meth c H locs cells slots Q (F0 m (pc + 1) ls (.int x :: rest))) : W p l e R s m args below meth c H locs cells slots Q (F0 m pc ls (.int (nI j) :: .ref (ad 2) :: rest)) := by
  subst hv
  refine va_bald hexec hb hK hP 2 1 (NM_at (by decide)) rfl (vp_in_nI hj (by decide)) hdg ?_
  rw [nI_clamp (by omega)]
  exact kk
theorem mw_lO (hexec : p.tables.exec = Jvm.exec) (hb : c.code = cc) (hK : va_K D clA (tyM cI cB cR) s) (hP : va_P D clA (NM cI cB cR ad w) H) {j : Nat} (hj : j < 20000) {x : Int32} (hv : mO w j = x) (hdg : decode cc pc = .ok (.baload, 1))
    (kk : W p l e R s m args below meth c H locs cells slots Q (F0 m (pc + 1) ls (.int x :: rest))) : W p l e R s m args below meth c H locs cells slots Q (F0 m pc ls (.int (nI j) :: .ref (ad 3) :: rest)) := by
  subst hv
  refine va_bald hexec hb hK hP 3 1 (NM_at (by decide)) rfl (vp_in_nI hj (by decide)) hdg ?_
  rw [nI_clamp (by omega)]
  exact kk
theorem mw_lG (hexec : p.tables.exec = Jvm.exec) (hb : c.code = cc) (hK : va_K D clA (tyM cI cB cR) s) (hP : va_P D clA (NM cI cB cR ad w) H) {j : Nat} (hj : j < 10) (hdg : decode cc pc = .ok (.aaload, 1))
    (kk : W p l e R s m args below meth c H locs cells slots Q (F0 m (pc + 1) ls (.ref (ad (2 * j + 4)) :: rest))) : W p l e R s m args below meth c H locs cells slots Q (F0 m pc ls (.int (nI j) :: .ref (ad 1) :: rest)) := by
  refine va_aldq hexec hb hK hP 1 2 (NM_at (by decide)) rfl (vp_in_nI hj (by decide)) hdg ?_
  rw [nI_clamp (by omega)]
  exact kk
theorem mw_sW (hexec : p.tables.exec = Jvm.exec) (hb : c.code = cc) (hK : va_K D clA (tyM cI cB cR) s) (hP : va_P D clA (NM cI cB cR ad w) H) (hD : va_D A (NM cI cB cR ad w)) (hS : va_S A H0 H locs) {i : Nat} (hi : i < 19) {j : Nat} {x : Nat} (hj : j < 6800) (hdg : decode cc pc = .ok (.iastore, 1))
    (kk : ∀ (H1 : Heap) (locs1 : List Loc), va_P D clA (NM cI cB cR ad (qW w i (upM (mW w i) j x))) H1 → va_D A (NM cI cB cR ad (qW w i (upM (mW w i) j x))) → va_S A H0 H1 locs1 → W p l e R s m args below meth c H1 locs1 cells slots Q (F0 m (pc + 1) ls rest)) : W p l e R s m args below meth c H locs cells slots Q (F0 m pc ls (.int (nI x) :: .int (nI j) :: .ref (ad (2 * i + 5)) :: rest)) := by
  refine va_iast hexec hb hK hP hD hS (2 * i + 5) 0 (NM_w hi) rfl (vp_in_nI hj (by decide)) hdg (fun H1 locs1 h1 h2 h3 => ?_)
  rw [nI_clamp (by omega), upM_nI] at h1 h2
  exact kk H1 locs1 (NM_qW hi ▸ h1) (NM_qW hi ▸ h2) h3
theorem mw_sT (hexec : p.tables.exec = Jvm.exec) (hb : c.code = cc) (hK : va_K D clA (tyM cI cB cR) s) (hP : va_P D clA (NM cI cB cR ad w) H) (hD : va_D A (NM cI cB cR ad w)) (hS : va_S A H0 H locs) {j : Nat} {x : Int32} (hj : j < 4096) (hdg : decode cc pc = .ok (.bastore, 1))
    (kk : ∀ (H1 : Heap) (locs1 : List Loc), va_P D clA (NM cI cB cR ad (qT w (upd (mT w) j (vp_nar .byte x)))) H1 → va_D A (NM cI cB cR ad (qT w (upd (mT w) j (vp_nar .byte x)))) → va_S A H0 H1 locs1 → W p l e R s m args below meth c H1 locs1 cells slots Q (F0 m (pc + 1) ls rest)) : W p l e R s m args below meth c H locs cells slots Q (F0 m pc ls (.int x :: .int (nI j) :: .ref (ad 2) :: rest)) := by
  refine va_bast hexec hb hK hP hD hS 2 1 (NM_at (by decide)) rfl (vp_in_nI hj (by decide)) hdg (fun H1 locs1 h1 h2 h3 => ?_)
  rw [nI_clamp (by omega)] at h1 h2
  exact kk H1 locs1 (NM_qT _ ▸ h1) (NM_qT _ ▸ h2) h3
theorem mw_sO (hexec : p.tables.exec = Jvm.exec) (hb : c.code = cc) (hK : va_K D clA (tyM cI cB cR) s) (hP : va_P D clA (NM cI cB cR ad w) H) (hD : va_D A (NM cI cB cR ad w)) (hS : va_S A H0 H locs) {j : Nat} {x : Int32} (hj : j < 20000) (hdg : decode cc pc = .ok (.bastore, 1))
    (kk : ∀ (H1 : Heap) (locs1 : List Loc), va_P D clA (NM cI cB cR ad (qO w (upd (mO w) j (vp_nar .byte x)))) H1 → va_D A (NM cI cB cR ad (qO w (upd (mO w) j (vp_nar .byte x)))) → va_S A H0 H1 locs1 → W p l e R s m args below meth c H1 locs1 cells slots Q (F0 m (pc + 1) ls rest)) : W p l e R s m args below meth c H locs cells slots Q (F0 m pc ls (.int x :: .int (nI j) :: .ref (ad 3) :: rest)) := by
  refine va_bast hexec hb hK hP hD hS 3 1 (NM_at (by decide)) rfl (vp_in_nI hj (by decide)) hdg (fun H1 locs1 h1 h2 h3 => ?_)
  rw [nI_clamp (by omega)] at h1 h2
  exact kk H1 locs1 (NM_qO _ ▸ h1) (NM_qO _ ▸ h2) h3
theorem mw_cWW (hexec : p.tables.exec = Jvm.exec) (hb : c.code = cc) (hml : c.maxLocals = ls.size) (hts : ∀ w ∈ c0 :: wA, w.before args s = true) (hown : s.vm.findClass own = some m.cls) (hlink : Cond.methodLink own index arraycopyName ∈ wA) (hK : va_K D clA (tyM cI cB cR) s) (hP : va_P D clA (NM cI cB cR ad w) H) (hD : va_D A (NM cI cB cR ad w)) (hS : va_S A H0 H locs) {a : Nat} (ha : a < 19) {i : Nat} (hi : i < 19) {sp dp n : Nat} (h4 : sp + n ≤ 6800) (h5 : dp + n ≤ 6800)
    (hframes : 1 ≤ R.frames) (hlocals : (rest.map fun v => v.category).sum + (nativeFrameWords "java/lang/System" "arraycopy" 5 + 11) ≤ R.locals) (hdg : decode cc pc = .ok (.invokestatic index, 3))
    (kk : ∀ (H1 : Heap) (locs1 : List Loc), va_P D clA (NM cI cB cR ad (qW w i (va_cpy (mW w a) (mW w i) sp dp n))) H1 → va_D A (NM cI cB cR ad (qW w i (va_cpy (mW w a) (mW w i) sp dp n))) → va_S A H0 H1 locs1 → W p l e R s m args below meth c H1 locs1 cells slots Q (F0 m (pc + 3) ls rest)) : W p l e R s m args below meth c H locs cells slots Q (F0 m pc ls (.int (nI n) :: .int (nI dp) :: .ref (ad (2 * i + 5)) :: .int (nI sp) :: .ref (ad (2 * a + 5)) :: rest)) := by
  refine va_copyi hexec hb hml hown (hA_ hts hlink) (hA_ hts ac_native) (hA_ hts ac_static) (hA_ hts in_System) hK hP hD hS (2 * a + 5) (2 * i + 5) 0 0 (ty := .int) (NM_w ha) (NM_w hi) rfl rfl rfl (nI_pos (by omega)) (nI_pos (by omega)) (nI_pos (by omega)) (by rw [nI_clamp (by omega), nI_clamp (by omega)]; exact h4) (by rw [nI_clamp (by omega), nI_clamp (by omega)]; exact h5) (fun _ _ => rfl) hframes hlocals hdg (fun H1 locs1 h1 h2 h3 => ?_)
  rw [nI_clamp (by omega), nI_clamp (by omega), nI_clamp (by omega), cpM_nI] at h1 h2
  exact kk H1 locs1 (NM_qW hi ▸ h1) (NM_qW hi ▸ h2) h3
theorem mw_nW (hexec : p.tables.exec = Jvm.exec) (hb : c.code = cc) (hK : va_K D clA (tyM cI cB cR) s) (hP : va_P D clA (NM cI cB cR ad w) H) {i : Nat} (hi : i < 19) (hdg : decode cc pc = .ok (.arraylength, 1))
    (kk : W p l e R s m args below meth c H locs cells slots Q (F0 m (pc + 1) ls (.int (nI 6800) :: rest))) : W p l e R s m args below meth c H locs cells slots Q (F0 m pc ls (.ref (ad (2 * i + 5)) :: rest)) :=
  va_alen hexec hb hK hP (2 * i + 5) 0 (NM_w hi) rfl rfl hdg kk
theorem mw_nT (hexec : p.tables.exec = Jvm.exec) (hb : c.code = cc) (hK : va_K D clA (tyM cI cB cR) s) (hP : va_P D clA (NM cI cB cR ad w) H) (hdg : decode cc pc = .ok (.arraylength, 1))
    (kk : W p l e R s m args below meth c H locs cells slots Q (F0 m (pc + 1) ls (.int (nI 4096) :: rest))) : W p l e R s m args below meth c H locs cells slots Q (F0 m pc ls (.ref (ad 2) :: rest)) :=
  va_alen hexec hb hK hP 2 1 (NM_at (by decide)) rfl rfl hdg kk
end WRM

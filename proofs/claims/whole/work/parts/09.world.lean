/-! THE WORLD: the object, its ten numbers, spare and the three of the roots (numbers 0 to 13), the bench's row, pieces, tape, out. One list of 36 cells at the addresses ad 0 .. ad 35 -/
abbrev St : Type := (Nat → Nat → Int32) × (Nat → Nat) × (Nat → Int32) × (Nat → Int32) × (Nat → Int32) × (Nat → Int32) × Nat × Nat
def sW (w : St) : Nat → Nat → Int32 := w.1
def sL (w : St) : Nat → Nat := w.2.1
def sR (w : St) : Nat → Int32 := w.2.2.1
def sP (w : St) : Nat → Int32 := w.2.2.2.1
def sT (w : St) : Nat → Int32 := w.2.2.2.2.1
def sO (w : St) : Nat → Int32 := w.2.2.2.2.2.1
def sA (w : St) : Nat := w.2.2.2.2.2.2.1
def sB (w : St) : Nat := w.2.2.2.2.2.2.2
def pW (w : St) (i : Nat) (f : Nat → Int32) : St := (fun j => if j = i then f else sW w j, sL w, sR w, sP w, sT w, sO w, sA w, sB w)
def pL (w : St) (i n : Nat) : St := (sW w, fun j => if j = i then n else sL w j, sR w, sP w, sT w, sO w, sA w, sB w)
def pR (w : St) (f : Nat → Int32) : St := (sW w, sL w, f, sP w, sT w, sO w, sA w, sB w)
def pP (w : St) (f : Nat → Int32) : St := (sW w, sL w, sR w, f, sT w, sO w, sA w, sB w)
def pT (w : St) (f : Nat → Int32) : St := (sW w, sL w, sR w, sP w, f, sO w, sA w, sB w)
def pO (w : St) (f : Nat → Int32) : St := (sW w, sL w, sR w, sP w, sT w, f, sA w, sB w)
def pA (w : St) (n : Nat) : St := (sW w, sL w, sR w, sP w, sT w, sO w, n, sB w)
def pB (w : St) (n : Nat) : St := (sW w, sL w, sR w, sP w, sT w, sO w, sA w, n)
/-- what the cell of number k holds; cI, cB, cR: the array classes of ints, of bytes, of numbers -/
def wc (cI cB cR : ClassId) (ad : Nat → Nat) (w : St) (k : Nat) : va_E := match k with
  | 0 => .inr (0, [.ref (ad 1), .ref (ad 28), .ref (ad 2), .ref (ad 4), .ref (ad 5), .ref (ad 6), .ref (ad 7), .int (nI (sA w)), .int (nI (sB w))])
  | 1 => .inl (cR, 10, .inr (.inr (.inr (.inr (fun i => some (ad (2 * i + 8)))))))
  | 2 => .inr (2, [.ref (ad 3)])
  | 3 => .inl (cI, 28672, .inl (sR w))
  | 4 => .inr (3, [.ref (ad 30), .ref (ad 32), .ref (ad 34)])
  | 5 => .inl (cI, 4800, .inl (sP w))
  | 6 => .inl (cB, 4096, .inl (sT w))
  | 7 => .inl (cB, 20000, .inl (sO w))
  | k + 8 => if k % 2 = 0 then .inr (1, [.ref (ad (k + 9)), .int (nI (sL w (k / 2)))]) else .inl (cI, 6272, .inl (sW w (k / 2)))
def NC (cI cB cR : ClassId) (ad : Nat → Nat) (w : St) : va_W := (List.range 36).map (fun k => (ad k, wc cI cB cR ad w k))
abbrev tyA (cI cB cR : ClassId) : List (ClassId × FieldType) := [(cI, .int), (cB, .byte), (cR, .object "LimbWorks$Natural")]
section WD
variable {cI cB cR : ClassId} {ad : Nat → Nat} {w w' : St}
theorem NC_len : (NC cI cB cR ad w).length = 36 := by simp [NC]
theorem NC_at {k : Nat} (h : k < 36) : (NC cI cB cR ad w)[k]? = some (ad k, wc cI cB cR ad w k) := by
  unfold NC
  rw [List.getElem?_map, List.getElem?_range h]
  rfl
theorem NC_set {k : Nat} {e : va_E} (hk : k < 36) (he : wc cI cB cR ad w' k = e) (ho : ∀ j, j ≠ k → wc cI cB cR ad w' j = wc cI cB cR ad w j) : (NC cI cB cR ad w).set k (ad k, e) = NC cI cB cR ad w' := by
  apply List.ext_getElem?
  intro j
  rw [List.getElem?_set]
  by_cases hj : k = j
  · subst hj
    rw [if_pos rfl, if_pos (by rw [NC_len]; exact hk), NC_at hk, he]
  · rw [if_neg hj]
    by_cases h36 : j < 36
    · rw [NC_at h36, NC_at h36, ho j (fun q => hj q.symm)]
    · rw [List.getElem?_eq_none (by rw [NC_len]; omega), List.getElem?_eq_none (by rw [NC_len]; omega)]
theorem wc_o (i : Nat) : wc cI cB cR ad w (2 * i + 8) = .inr (1, [.ref (ad (2 * i + 9)), .int (nI (sL w i))]) := by
  show (if 2 * i % 2 = 0 then (.inr (1, [.ref (ad (2 * i + 9)), .int (nI (sL w (2 * i / 2)))]) : va_E) else _) = _
  rw [if_pos (by omega), show 2 * i / 2 = i by omega]
theorem wc_w (i : Nat) : wc cI cB cR ad w (2 * i + 9) = .inl (cI, 6272, .inl (sW w i)) := by
  show (if (2 * i + 1) % 2 = 0 then (.inr (1, [.ref (ad (2 * i + 1 + 9)), .int (nI (sL w ((2 * i + 1) / 2)))]) : va_E) else .inl (cI, 6272, .inl (sW w ((2 * i + 1) / 2)))) = _
  rw [if_neg (by omega), show (2 * i + 1) / 2 = i by omega]
theorem NC_o {i : Nat} (h : i < 14) : (NC cI cB cR ad w)[2 * i + 8]? = some (ad (2 * i + 8), .inr (1, [.ref (ad (2 * i + 9)), .int (nI (sL w i))])) := by rw [NC_at (by omega), wc_o]
theorem NC_w {i : Nat} (h : i < 14) : (NC cI cB cR ad w)[2 * i + 9]? = some (ad (2 * i + 9), .inl (cI, 6272, .inl (sW w i))) := by rw [NC_at (by omega), wc_w]
theorem wc_hi {k : Nat} (hL : ∀ i, sL w' i = sL w i ∨ k = 2 * i) (hW : ∀ i, sW w' i = sW w i ∨ k = 2 * i + 1) {j : Nat} (hj : j + 8 ≠ k + 8) : wc cI cB cR ad w' (j + 8) = wc cI cB cR ad w (j + 8) := by
  show (if j % 2 = 0 then (.inr (1, [.ref (ad (j + 9)), .int (nI (sL w' (j / 2)))]) : va_E) else .inl (cI, 6272, .inl (sW w' (j / 2)))) = (if j % 2 = 0 then (.inr (1, [.ref (ad (j + 9)), .int (nI (sL w (j / 2)))]) : va_E) else .inl (cI, 6272, .inl (sW w (j / 2))))
  by_cases h : j % 2 = 0
  · rw [if_pos h, if_pos h]
    rcases hL (j / 2) with q | q
    · rw [q]
    · omega
  · rw [if_neg h, if_neg h]
    rcases hW (j / 2) with q | q
    · rw [q]
    · omega
theorem NC_pL {i n : Nat} (hi : i < 14) : (NC cI cB cR ad w).set (2 * i + 8) (ad (2 * i + 8), .inr (1, [.ref (ad (2 * i + 9)), .int (nI n)])) = NC cI cB cR ad (pL w i n) := by
  refine NC_set (by omega) ?_ ?_
  · rw [wc_o]
    show (.inr (1, [.ref (ad (2 * i + 9)), .int (nI (if i = i then n else sL w i))]) : va_E) = _
    rw [if_pos rfl]
  · intro j hj
    match j, hj with
    | 0, _ | 1, _ | 2, _ | 3, _ | 4, _ | 5, _ | 6, _ | 7, _ => rfl
    | j + 8, hj =>
      refine wc_hi (w := w) (w' := pL w i n) (k := 2 * i) (fun a => ?_) (fun a => Or.inl rfl) hj
      show (if a = i then n else sL w a) = sL w a ∨ _
      by_cases h : a = i
      · right; rw [h]
      · left; rw [if_neg h]
theorem NC_pW {i : Nat} {f : Nat → Int32} (hi : i < 14) : (NC cI cB cR ad w).set (2 * i + 9) (ad (2 * i + 9), .inl (cI, 6272, .inl f)) = NC cI cB cR ad (pW w i f) := by
  refine NC_set (by omega) ?_ ?_
  · rw [wc_w]
    show (.inl (cI, 6272, .inl (if i = i then f else sW w i)) : va_E) = _
    rw [if_pos rfl]
  · intro j hj
    match j, hj with
    | 0, _ | 1, _ | 2, _ | 3, _ | 4, _ | 5, _ | 6, _ | 7, _ => rfl
    | j + 8, hj =>
      refine wc_hi (w := w) (w' := pW w i f) (k := 2 * i + 1) (fun a => Or.inl rfl) (fun a => ?_) hj
      show (if a = i then f else sW w a) = sW w a ∨ _
      by_cases h : a = i
      · right; rw [h]
      · left; rw [if_neg h]
theorem NC_pR (f : Nat → Int32) : (NC cI cB cR ad w).set 3 (ad 3, .inl (cI, 28672, .inl f)) = NC cI cB cR ad (pR w f) := by
  refine NC_set (by omega) rfl ?_
  intro j hj
  match j, hj with
  | 0, _ | 1, _ | 2, _ | 4, _ | 5, _ | 6, _ | 7, _ => rfl
  | 3, hj => exact absurd rfl hj
  | j + 8, hj => rfl
theorem NC_pP (f : Nat → Int32) : (NC cI cB cR ad w).set 5 (ad 5, .inl (cI, 4800, .inl f)) = NC cI cB cR ad (pP w f) := by
  refine NC_set (by omega) rfl ?_
  intro j hj
  match j, hj with
  | 0, _ | 1, _ | 2, _ | 3, _ | 4, _ | 6, _ | 7, _ => rfl
  | 5, hj => exact absurd rfl hj
  | j + 8, hj => rfl
theorem NC_pT (f : Nat → Int32) : (NC cI cB cR ad w).set 6 (ad 6, .inl (cB, 4096, .inl f)) = NC cI cB cR ad (pT w f) := by
  refine NC_set (by omega) rfl ?_
  intro j hj
  match j, hj with
  | 0, _ | 1, _ | 2, _ | 3, _ | 4, _ | 5, _ | 7, _ => rfl
  | 6, hj => exact absurd rfl hj
  | j + 8, hj => rfl
theorem NC_pO (f : Nat → Int32) : (NC cI cB cR ad w).set 7 (ad 7, .inl (cB, 20000, .inl f)) = NC cI cB cR ad (pO w f) := by
  refine NC_set (by omega) rfl ?_
  intro j hj
  match j, hj with
  | 0, _ | 1, _ | 2, _ | 3, _ | 4, _ | 5, _ | 6, _ => rfl
  | 7, hj => exact absurd rfl hj
  | j + 8, hj => rfl
theorem NC_pA (n : Nat) : (NC cI cB cR ad w).set 0 (ad 0, .inr (0, [.ref (ad 1), .ref (ad 28), .ref (ad 2), .ref (ad 4), .ref (ad 5), .ref (ad 6), .ref (ad 7), .int (nI n), .int (nI (sB w))])) = NC cI cB cR ad (pA w n) := by
  refine NC_set (by omega) rfl ?_
  intro j hj
  match j, hj with
  | 0, hj => exact absurd rfl hj
  | 1, _ | 2, _ | 3, _ | 4, _ | 5, _ | 6, _ | 7, _ => rfl
  | j + 8, hj => rfl
theorem NC_pB (n : Nat) : (NC cI cB cR ad w).set 0 (ad 0, .inr (0, [.ref (ad 1), .ref (ad 28), .ref (ad 2), .ref (ad 4), .ref (ad 5), .ref (ad 6), .ref (ad 7), .int (nI (sA w)), .int (nI n)])) = NC cI cB cR ad (pB w n) := by
  refine NC_set (by omega) rfl ?_
  intro j hj
  match j, hj with
  | 0, hj => exact absurd rfl hj
  | 1, _ | 2, _ | 3, _ | 4, _ | 5, _ | 6, _ | 7, _ => rfl
  | j + 8, hj => rfl
theorem sL_pL (w : St) (i n : Nat) : sL (pL w i n) i = n := if_pos rfl
theorem sL_pLn (w : St) {i j : Nat} (n : Nat) (h : j ≠ i) : sL (pL w i n) j = sL w j := if_neg h
theorem sW_pW (w : St) (i : Nat) (f : Nat → Int32) : sW (pW w i f) i = f := if_pos rfl
theorem sW_pWn (w : St) {i j : Nat} (f : Nat → Int32) (h : j ≠ i) : sW (pW w i f) j = sW w j := if_neg h
theorem pL_pL (w : St) (i a b : Nat) : pL (pL w i a) i b = pL w i b := by
  have : (fun j => if j = i then b else (if j = i then a else sL w j)) = fun j => if j = i then b else sL w j := by
    funext j
    by_cases h : j = i
    · rw [if_pos h, if_pos h]
    · rw [if_neg h, if_neg h, if_neg h]
  show (sW w, (fun j => if j = i then b else (if j = i then a else sL w j)), _) = _
  rw [this]
  rfl
theorem pW_pW (w : St) (i : Nat) (f g : Nat → Int32) : pW (pW w i f) i g = pW w i g := by
  have : (fun j => if j = i then g else (if j = i then f else sW w j)) = fun j => if j = i then g else sW w j := by
    funext j
    by_cases h : j = i
    · rw [if_pos h, if_pos h]
    · rw [if_neg h, if_neg h, if_neg h]
  show ((fun j => if j = i then g else (if j = i then f else sW w j)), _) = _
  rw [this]
  rfl
theorem pL_self (w : St) (i : Nat) : pL w i (sL w i) = w := by
  have : (fun j => if j = i then sL w i else sL w j) = sL w := by
    funext j
    by_cases h : j = i
    · rw [if_pos h, h]
    · rw [if_neg h]
  show (sW w, (fun j => if j = i then sL w i else sL w j), _) = _
  rw [this]
  rfl
theorem pW_self (w : St) (i : Nat) : pW w i (sW w i) = w := by
  have : (fun j => if j = i then sW w i else sW w j) = sW w := by
    funext j
    by_cases h : j = i
    · rw [if_pos h, h]
    · rw [if_neg h]
  show ((fun j => if j = i then sW w i else sW w j), _) = _
  rw [this]
  rfl
theorem pR_self (w : St) : pR w (sR w) = w := rfl
end WD
section WR
variable {p : Program} {l : Launch} {e : Env} {R : Room} {s : State} {m : MethodId} {args : Array Value} {below : List Frame} {meth : Method} {c : Code} {H : Heap} {locs : List Loc} {cells slots : Nat} {Q : State → Prop}
variable {cc : ByteArray} {pc : Nat} {ls : Array Slot} {rest : List Value} {D : va_G} {A : Nat → Prop} {H0 : Heap} {cI cB cR : ClassId} {ad : Nat → Nat} {w : St} {own : String} {index : Nat} {c0 : Cond}
theorem nw_gL (hexec : p.tables.exec = Jvm.exec) (hb : c.code = cc) (hts : ∀ w ∈ c0 :: wA, w.before args s = true) (hown : s.vm.findClass own = some m.cls) (hK : va_K D clA (tyA cI cB cR) s) (hP : va_P D clA (NC cI cB cR ad w) H) {i : Nat} (hi : i < 14) {n : Nat} (hv : sL w i = n) (hlink : Cond.fieldLink own index "LimbWorks$Natural" "length" "I" ∈ wA) (hdg : decode cc pc = .ok (.getfield index, 3))
    (kk : W p l e R s m args below meth c H locs cells slots Q (F0 m (pc + 3) ls (.int (nI n) :: rest))) : W p l e R s m args below meth c H locs cells slots Q (F0 m pc ls (.ref (ad (2 * i + 8)) :: rest)) := by
  subst hv
  exact va_get (ref := "LimbWorks$Natural") (C := R_Na) (T := F_Na) (N := 2) (ci := 1) hexec hb hts (fun w h => List.mem_cons_of_mem _ (i_Na w h)) hown hK hP (2 * i + 8) (NC_o hi) rfl 1 (by decide) (hA_ hts hlink) (fun _ h => h) rfl hdg kk
theorem nw_gW (hexec : p.tables.exec = Jvm.exec) (hb : c.code = cc) (hts : ∀ w ∈ c0 :: wA, w.before args s = true) (hown : s.vm.findClass own = some m.cls) (hK : va_K D clA (tyA cI cB cR) s) (hP : va_P D clA (NC cI cB cR ad w) H) {i : Nat} (hi : i < 14) (hlink : Cond.fieldLink own index "LimbWorks$Natural" "words" "[I" ∈ wA) (hdg : decode cc pc = .ok (.getfield index, 3))
    (kk : W p l e R s m args below meth c H locs cells slots Q (F0 m (pc + 3) ls (.ref (ad (2 * i + 9)) :: rest))) : W p l e R s m args below meth c H locs cells slots Q (F0 m pc ls (.ref (ad (2 * i + 8)) :: rest)) :=
  va_get (ref := "LimbWorks$Natural") (C := R_Na) (T := F_Na) (N := 2) (ci := 1) hexec hb hts (fun w h => List.mem_cons_of_mem _ (i_Na w h)) hown hK hP (2 * i + 8) (NC_o hi) rfl 0 (by decide) (hA_ hts hlink) (fun _ h => h) rfl hdg kk
theorem nw_gR (hexec : p.tables.exec = Jvm.exec) (hb : c.code = cc) (hts : ∀ w ∈ c0 :: wA, w.before args s = true) (hown : s.vm.findClass own = some m.cls) (hK : va_K D clA (tyA cI cB cR) s) (hP : va_P D clA (NC cI cB cR ad w) H) (hlink : Cond.fieldLink own index "LimbWorks$Bench" "row" "[I" ∈ wA) (hdg : decode cc pc = .ok (.getfield index, 3))
    (kk : W p l e R s m args below meth c H locs cells slots Q (F0 m (pc + 3) ls (.ref (ad 3) :: rest))) : W p l e R s m args below meth c H locs cells slots Q (F0 m pc ls (.ref (ad 2) :: rest)) :=
  va_get (ref := "LimbWorks$Bench") (C := R_Be) (T := F_Be) (N := 1) (ci := 2) hexec hb hts (fun w h => List.mem_cons_of_mem _ (i_Be w h)) hown hK hP 2 (NC_at (by decide)) rfl 0 (by decide) (hA_ hts hlink) (fun _ h => h) rfl hdg kk
theorem nw_gO0 (hexec : p.tables.exec = Jvm.exec) (hb : c.code = cc) (hts : ∀ w ∈ c0 :: wA, w.before args s = true) (hown : s.vm.findClass own = some m.cls) (hK : va_K D clA (tyA cI cB cR) s) (hP : va_P D clA (NC cI cB cR ad w) H) (hlink : Cond.fieldLink own index "LimbWorks$Roots" "lesser" "LLimbWorks$Natural;" ∈ wA) (hdg : decode cc pc = .ok (.getfield index, 3))
    (kk : W p l e R s m args below meth c H locs cells slots Q (F0 m (pc + 3) ls (.ref (ad 30) :: rest))) : W p l e R s m args below meth c H locs cells slots Q (F0 m pc ls (.ref (ad 4) :: rest)) :=
  va_get (ref := "LimbWorks$Roots") (C := R_Ro) (T := F_Ro) (N := 3) (ci := 3) hexec hb hts (fun w h => List.mem_cons_of_mem _ (i_Ro w h)) hown hK hP 4 (NC_at (by decide)) rfl 0 (by decide) (hA_ hts hlink) (fun _ h => h) rfl hdg kk
theorem nw_gO1 (hexec : p.tables.exec = Jvm.exec) (hb : c.code = cc) (hts : ∀ w ∈ c0 :: wA, w.before args s = true) (hown : s.vm.findClass own = some m.cls) (hK : va_K D clA (tyA cI cB cR) s) (hP : va_P D clA (NC cI cB cR ad w) H) (hlink : Cond.fieldLink own index "LimbWorks$Roots" "whole" "LLimbWorks$Natural;" ∈ wA) (hdg : decode cc pc = .ok (.getfield index, 3))
    (kk : W p l e R s m args below meth c H locs cells slots Q (F0 m (pc + 3) ls (.ref (ad 32) :: rest))) : W p l e R s m args below meth c H locs cells slots Q (F0 m pc ls (.ref (ad 4) :: rest)) :=
  va_get (ref := "LimbWorks$Roots") (C := R_Ro) (T := F_Ro) (N := 3) (ci := 3) hexec hb hts (fun w h => List.mem_cons_of_mem _ (i_Ro w h)) hown hK hP 4 (NC_at (by decide)) rfl 1 (by decide) (hA_ hts hlink) (fun _ h => h) rfl hdg kk
theorem nw_gO2 (hexec : p.tables.exec = Jvm.exec) (hb : c.code = cc) (hts : ∀ w ∈ c0 :: wA, w.before args s = true) (hown : s.vm.findClass own = some m.cls) (hK : va_K D clA (tyA cI cB cR) s) (hP : va_P D clA (NC cI cB cR ad w) H) (hlink : Cond.fieldLink own index "LimbWorks$Roots" "part" "LLimbWorks$Natural;" ∈ wA) (hdg : decode cc pc = .ok (.getfield index, 3))
    (kk : W p l e R s m args below meth c H locs cells slots Q (F0 m (pc + 3) ls (.ref (ad 34) :: rest))) : W p l e R s m args below meth c H locs cells slots Q (F0 m pc ls (.ref (ad 4) :: rest)) :=
  va_get (ref := "LimbWorks$Roots") (C := R_Ro) (T := F_Ro) (N := 3) (ci := 3) hexec hb hts (fun w h => List.mem_cons_of_mem _ (i_Ro w h)) hown hK hP 4 (NC_at (by decide)) rfl 2 (by decide) (hA_ hts hlink) (fun _ h => h) rfl hdg kk
theorem nw_gF0 (hexec : p.tables.exec = Jvm.exec) (hb : c.code = cc) (hts : ∀ w ∈ c0 :: wA, w.before args s = true) (hown : s.vm.findClass own = some m.cls) (hK : va_K D clA (tyA cI cB cR) s) (hP : va_P D clA (NC cI cB cR ad w) H) (hlink : Cond.fieldLink own index "LimbWorks" "registers" "[LLimbWorks$Natural;" ∈ wA) (hdg : decode cc pc = .ok (.getfield index, 3))
    (kk : W p l e R s m args below meth c H locs cells slots Q (F0 m (pc + 3) ls (.ref (ad 1) :: rest))) : W p l e R s m args below meth c H locs cells slots Q (F0 m pc ls (.ref (ad 0) :: rest)) :=
  va_get (ref := "LimbWorks") (C := R_Lw) (T := F_Lw) (N := 9) (ci := 0) hexec hb hts (fun w h => List.mem_cons_of_mem _ (i_Lw w h)) hown hK hP 0 (NC_at (by decide)) rfl 0 (by decide) (hA_ hts hlink) (fun _ h => h) rfl hdg kk
theorem nw_gF1 (hexec : p.tables.exec = Jvm.exec) (hb : c.code = cc) (hts : ∀ w ∈ c0 :: wA, w.before args s = true) (hown : s.vm.findClass own = some m.cls) (hK : va_K D clA (tyA cI cB cR) s) (hP : va_P D clA (NC cI cB cR ad w) H) (hlink : Cond.fieldLink own index "LimbWorks" "spare" "LLimbWorks$Natural;" ∈ wA) (hdg : decode cc pc = .ok (.getfield index, 3))
    (kk : W p l e R s m args below meth c H locs cells slots Q (F0 m (pc + 3) ls (.ref (ad 28) :: rest))) : W p l e R s m args below meth c H locs cells slots Q (F0 m pc ls (.ref (ad 0) :: rest)) :=
  va_get (ref := "LimbWorks") (C := R_Lw) (T := F_Lw) (N := 9) (ci := 0) hexec hb hts (fun w h => List.mem_cons_of_mem _ (i_Lw w h)) hown hK hP 0 (NC_at (by decide)) rfl 1 (by decide) (hA_ hts hlink) (fun _ h => h) rfl hdg kk
theorem nw_gF2 (hexec : p.tables.exec = Jvm.exec) (hb : c.code = cc) (hts : ∀ w ∈ c0 :: wA, w.before args s = true) (hown : s.vm.findClass own = some m.cls) (hK : va_K D clA (tyA cI cB cR) s) (hP : va_P D clA (NC cI cB cR ad w) H) (hlink : Cond.fieldLink own index "LimbWorks" "bench" "LLimbWorks$Bench;" ∈ wA) (hdg : decode cc pc = .ok (.getfield index, 3))
    (kk : W p l e R s m args below meth c H locs cells slots Q (F0 m (pc + 3) ls (.ref (ad 2) :: rest))) : W p l e R s m args below meth c H locs cells slots Q (F0 m pc ls (.ref (ad 0) :: rest)) :=
  va_get (ref := "LimbWorks") (C := R_Lw) (T := F_Lw) (N := 9) (ci := 0) hexec hb hts (fun w h => List.mem_cons_of_mem _ (i_Lw w h)) hown hK hP 0 (NC_at (by decide)) rfl 2 (by decide) (hA_ hts hlink) (fun _ h => h) rfl hdg kk
theorem nw_gF3 (hexec : p.tables.exec = Jvm.exec) (hb : c.code = cc) (hts : ∀ w ∈ c0 :: wA, w.before args s = true) (hown : s.vm.findClass own = some m.cls) (hK : va_K D clA (tyA cI cB cR) s) (hP : va_P D clA (NC cI cB cR ad w) H) (hlink : Cond.fieldLink own index "LimbWorks" "roots" "LLimbWorks$Roots;" ∈ wA) (hdg : decode cc pc = .ok (.getfield index, 3))
    (kk : W p l e R s m args below meth c H locs cells slots Q (F0 m (pc + 3) ls (.ref (ad 4) :: rest))) : W p l e R s m args below meth c H locs cells slots Q (F0 m pc ls (.ref (ad 0) :: rest)) :=
  va_get (ref := "LimbWorks") (C := R_Lw) (T := F_Lw) (N := 9) (ci := 0) hexec hb hts (fun w h => List.mem_cons_of_mem _ (i_Lw w h)) hown hK hP 0 (NC_at (by decide)) rfl 3 (by decide) (hA_ hts hlink) (fun _ h => h) rfl hdg kk
theorem nw_gF4 (hexec : p.tables.exec = Jvm.exec) (hb : c.code = cc) (hts : ∀ w ∈ c0 :: wA, w.before args s = true) (hown : s.vm.findClass own = some m.cls) (hK : va_K D clA (tyA cI cB cR) s) (hP : va_P D clA (NC cI cB cR ad w) H) (hlink : Cond.fieldLink own index "LimbWorks" "pieces" "[I" ∈ wA) (hdg : decode cc pc = .ok (.getfield index, 3))
    (kk : W p l e R s m args below meth c H locs cells slots Q (F0 m (pc + 3) ls (.ref (ad 5) :: rest))) : W p l e R s m args below meth c H locs cells slots Q (F0 m pc ls (.ref (ad 0) :: rest)) :=
  va_get (ref := "LimbWorks") (C := R_Lw) (T := F_Lw) (N := 9) (ci := 0) hexec hb hts (fun w h => List.mem_cons_of_mem _ (i_Lw w h)) hown hK hP 0 (NC_at (by decide)) rfl 4 (by decide) (hA_ hts hlink) (fun _ h => h) rfl hdg kk
theorem nw_gF5 (hexec : p.tables.exec = Jvm.exec) (hb : c.code = cc) (hts : ∀ w ∈ c0 :: wA, w.before args s = true) (hown : s.vm.findClass own = some m.cls) (hK : va_K D clA (tyA cI cB cR) s) (hP : va_P D clA (NC cI cB cR ad w) H) (hlink : Cond.fieldLink own index "LimbWorks" "tape" "[B" ∈ wA) (hdg : decode cc pc = .ok (.getfield index, 3))
    (kk : W p l e R s m args below meth c H locs cells slots Q (F0 m (pc + 3) ls (.ref (ad 6) :: rest))) : W p l e R s m args below meth c H locs cells slots Q (F0 m pc ls (.ref (ad 0) :: rest)) :=
  va_get (ref := "LimbWorks") (C := R_Lw) (T := F_Lw) (N := 9) (ci := 0) hexec hb hts (fun w h => List.mem_cons_of_mem _ (i_Lw w h)) hown hK hP 0 (NC_at (by decide)) rfl 5 (by decide) (hA_ hts hlink) (fun _ h => h) rfl hdg kk
theorem nw_gF6 (hexec : p.tables.exec = Jvm.exec) (hb : c.code = cc) (hts : ∀ w ∈ c0 :: wA, w.before args s = true) (hown : s.vm.findClass own = some m.cls) (hK : va_K D clA (tyA cI cB cR) s) (hP : va_P D clA (NC cI cB cR ad w) H) (hlink : Cond.fieldLink own index "LimbWorks" "out" "[B" ∈ wA) (hdg : decode cc pc = .ok (.getfield index, 3))
    (kk : W p l e R s m args below meth c H locs cells slots Q (F0 m (pc + 3) ls (.ref (ad 7) :: rest))) : W p l e R s m args below meth c H locs cells slots Q (F0 m pc ls (.ref (ad 0) :: rest)) :=
  va_get (ref := "LimbWorks") (C := R_Lw) (T := F_Lw) (N := 9) (ci := 0) hexec hb hts (fun w h => List.mem_cons_of_mem _ (i_Lw w h)) hown hK hP 0 (NC_at (by decide)) rfl 6 (by decide) (hA_ hts hlink) (fun _ h => h) rfl hdg kk
theorem nw_gF7 (hexec : p.tables.exec = Jvm.exec) (hb : c.code = cc) (hts : ∀ w ∈ c0 :: wA, w.before args s = true) (hown : s.vm.findClass own = some m.cls) (hK : va_K D clA (tyA cI cB cR) s) (hP : va_P D clA (NC cI cB cR ad w) H) {n : Nat} (hv : sA w = n) (hlink : Cond.fieldLink own index "LimbWorks" "tapeLength" "I" ∈ wA) (hdg : decode cc pc = .ok (.getfield index, 3))
    (kk : W p l e R s m args below meth c H locs cells slots Q (F0 m (pc + 3) ls (.int (nI n) :: rest))) : W p l e R s m args below meth c H locs cells slots Q (F0 m pc ls (.ref (ad 0) :: rest)) := by
  subst hv
  exact va_get (ref := "LimbWorks") (C := R_Lw) (T := F_Lw) (N := 9) (ci := 0) hexec hb hts (fun w h => List.mem_cons_of_mem _ (i_Lw w h)) hown hK hP 0 (NC_at (by decide)) rfl 7 (by decide) (hA_ hts hlink) (fun _ h => h) rfl hdg kk
theorem nw_gF8 (hexec : p.tables.exec = Jvm.exec) (hb : c.code = cc) (hts : ∀ w ∈ c0 :: wA, w.before args s = true) (hown : s.vm.findClass own = some m.cls) (hK : va_K D clA (tyA cI cB cR) s) (hP : va_P D clA (NC cI cB cR ad w) H) {n : Nat} (hv : sB w = n) (hlink : Cond.fieldLink own index "LimbWorks" "outLength" "I" ∈ wA) (hdg : decode cc pc = .ok (.getfield index, 3))
    (kk : W p l e R s m args below meth c H locs cells slots Q (F0 m (pc + 3) ls (.int (nI n) :: rest))) : W p l e R s m args below meth c H locs cells slots Q (F0 m pc ls (.ref (ad 0) :: rest)) := by
  subst hv
  exact va_get (ref := "LimbWorks") (C := R_Lw) (T := F_Lw) (N := 9) (ci := 0) hexec hb hts (fun w h => List.mem_cons_of_mem _ (i_Lw w h)) hown hK hP 0 (NC_at (by decide)) rfl 8 (by decide) (hA_ hts hlink) (fun _ h => h) rfl hdg kk
theorem nw_pL (hexec : p.tables.exec = Jvm.exec) (hb : c.code = cc) (hts : ∀ w ∈ c0 :: wA, w.before args s = true) (hown : s.vm.findClass own = some m.cls) (hK : va_K D clA (tyA cI cB cR) s) (hP : va_P D clA (NC cI cB cR ad w) H) (hD : va_D A (NC cI cB cR ad w)) (hS : va_S A H0 H locs) {i : Nat} (hi : i < 14) {n : Nat} (hlink : Cond.fieldLink own index "LimbWorks$Natural" "length" "I" ∈ wA) (hdg : decode cc pc = .ok (.putfield index, 3))
    (kk : ∀ (H1 : Heap) (locs1 : List Loc), va_P D clA (NC cI cB cR ad (pL w i n)) H1 → va_D A (NC cI cB cR ad (pL w i n)) → va_S A H0 H1 locs1 → W p l e R s m args below meth c H1 locs1 cells slots Q (F0 m (pc + 3) ls rest)) : W p l e R s m args below meth c H locs cells slots Q (F0 m pc ls (.int (nI n) :: .ref (ad (2 * i + 8)) :: rest)) :=
  va_put (ref := "LimbWorks$Natural") (C := R_Na) (T := F_Na) (N := 2) (ci := 1) (ty := .int) hexec hb hts (fun w h => List.mem_cons_of_mem _ (i_Na w h)) t_Na t_Na_ok n_Na hown hK hP hD hS (2 * i + 8) (NC_o hi) rfl 1 (by decide) (hA_ hts hlink) (fun _ h => h) rfl (by decide +kernel) rfl rfl (Nat.le_of_ble_eq_true rfl) hdg
    (fun H1 locs1 h1 h2 h3 => kk H1 locs1 (NC_pL hi ▸ h1) (NC_pL hi ▸ h2) h3)
theorem nw_pA (hexec : p.tables.exec = Jvm.exec) (hb : c.code = cc) (hts : ∀ w ∈ c0 :: wA, w.before args s = true) (hown : s.vm.findClass own = some m.cls) (hK : va_K D clA (tyA cI cB cR) s) (hP : va_P D clA (NC cI cB cR ad w) H) (hD : va_D A (NC cI cB cR ad w)) (hS : va_S A H0 H locs) {n : Nat} (hlink : Cond.fieldLink own index "LimbWorks" "tapeLength" "I" ∈ wA) (hdg : decode cc pc = .ok (.putfield index, 3))
    (kk : ∀ (H1 : Heap) (locs1 : List Loc), va_P D clA (NC cI cB cR ad (pA w n)) H1 → va_D A (NC cI cB cR ad (pA w n)) → va_S A H0 H1 locs1 → W p l e R s m args below meth c H1 locs1 cells slots Q (F0 m (pc + 3) ls rest)) : W p l e R s m args below meth c H locs cells slots Q (F0 m pc ls (.int (nI n) :: .ref (ad 0) :: rest)) :=
  va_put (ref := "LimbWorks") (C := R_Lw) (T := F_Lw) (N := 9) (ci := 0) (ty := .int) hexec hb hts (fun w h => List.mem_cons_of_mem _ (i_Lw w h)) t_Lw t_Lw_ok n_Lw hown hK hP hD hS 0 (NC_at (by decide)) rfl 7 (by decide) (hA_ hts hlink) (fun _ h => h) rfl (by decide +kernel) rfl rfl (Nat.le_of_ble_eq_true rfl) hdg
    (fun H1 locs1 h1 h2 h3 => kk H1 locs1 (NC_pA n ▸ h1) (NC_pA n ▸ h2) h3)
theorem nw_pB (hexec : p.tables.exec = Jvm.exec) (hb : c.code = cc) (hts : ∀ w ∈ c0 :: wA, w.before args s = true) (hown : s.vm.findClass own = some m.cls) (hK : va_K D clA (tyA cI cB cR) s) (hP : va_P D clA (NC cI cB cR ad w) H) (hD : va_D A (NC cI cB cR ad w)) (hS : va_S A H0 H locs) {n : Nat} (hlink : Cond.fieldLink own index "LimbWorks" "outLength" "I" ∈ wA) (hdg : decode cc pc = .ok (.putfield index, 3))
    (kk : ∀ (H1 : Heap) (locs1 : List Loc), va_P D clA (NC cI cB cR ad (pB w n)) H1 → va_D A (NC cI cB cR ad (pB w n)) → va_S A H0 H1 locs1 → W p l e R s m args below meth c H1 locs1 cells slots Q (F0 m (pc + 3) ls rest)) : W p l e R s m args below meth c H locs cells slots Q (F0 m pc ls (.int (nI n) :: .ref (ad 0) :: rest)) :=
  va_put (ref := "LimbWorks") (C := R_Lw) (T := F_Lw) (N := 9) (ci := 0) (ty := .int) hexec hb hts (fun w h => List.mem_cons_of_mem _ (i_Lw w h)) t_Lw t_Lw_ok n_Lw hown hK hP hD hS 0 (NC_at (by decide)) rfl 8 (by decide) (hA_ hts hlink) (fun _ h => h) rfl (by decide +kernel) rfl rfl (Nat.le_of_ble_eq_true rfl) hdg
    (fun H1 locs1 h1 h2 h3 => kk H1 locs1 (NC_pB n ▸ h1) (NC_pB n ▸ h2) h3)
theorem nw_lW (hexec : p.tables.exec = Jvm.exec) (hb : c.code = cc) (hK : va_K D clA (tyA cI cB cR) s) (hP : va_P D clA (NC cI cB cR ad w) H) {i : Nat} (hi : i < 14) {j : Nat} (hj : j < 6272) {x : Int32} (hv : sW w i j = x) (hdg : decode cc pc = .ok (.iaload, 1))
    (kk : W p l e R s m args below meth c H locs cells slots Q (F0 m (pc + 1) ls (.int x :: rest))) : W p l e R s m args below meth c H locs cells slots Q (F0 m pc ls (.int (nI j) :: .ref (ad (2 * i + 9)) :: rest)) := by
  subst hv
  refine va_iald hexec hb hK hP (2 * i + 9) 0 (NC_w hi) rfl (vp_in_nI hj (by decide)) hdg ?_
  rw [nI_clamp (by omega)]
  exact kk
theorem nw_lR (hexec : p.tables.exec = Jvm.exec) (hb : c.code = cc) (hK : va_K D clA (tyA cI cB cR) s) (hP : va_P D clA (NC cI cB cR ad w) H) {j : Nat} (hj : j < 28672) {x : Int32} (hv : sR w j = x) (hdg : decode cc pc = .ok (.iaload, 1))
    (kk : W p l e R s m args below meth c H locs cells slots Q (F0 m (pc + 1) ls (.int x :: rest))) : W p l e R s m args below meth c H locs cells slots Q (F0 m pc ls (.int (nI j) :: .ref (ad 3) :: rest)) := by
  subst hv
  refine va_iald hexec hb hK hP 3 0 (NC_at (by decide)) rfl (vp_in_nI hj (by decide)) hdg ?_
  rw [nI_clamp (by omega)]
  exact kk
theorem nw_lP (hexec : p.tables.exec = Jvm.exec) (hb : c.code = cc) (hK : va_K D clA (tyA cI cB cR) s) (hP : va_P D clA (NC cI cB cR ad w) H) {j : Nat} (hj : j < 4800) {x : Int32} (hv : sP w j = x) (hdg : decode cc pc = .ok (.iaload, 1))
    (kk : W p l e R s m args below meth c H locs cells slots Q (F0 m (pc + 1) ls (.int x :: rest))) : W p l e R s m args below meth c H locs cells slots Q (F0 m pc ls (.int (nI j) :: .ref (ad 5) :: rest)) := by
  subst hv
  refine va_iald hexec hb hK hP 5 0 (NC_at (by decide)) rfl (vp_in_nI hj (by decide)) hdg ?_
  rw [nI_clamp (by omega)]
  exact kk
theorem nw_lT (hexec : p.tables.exec = Jvm.exec) (hb : c.code = cc) (hK : va_K D clA (tyA cI cB cR) s) (hP : va_P D clA (NC cI cB cR ad w) H) {j : Nat} (hj : j < 4096) {x : Int32} (hv : sT w j = x) (hdg : decode cc pc = .ok (.baload, 1))
    (kk : W p l e R s m args below meth c H locs cells slots Q (F0 m (pc + 1) ls (.int x :: rest))) : W p l e R s m args below meth c H locs cells slots Q (F0 m pc ls (.int (nI j) :: .ref (ad 6) :: rest)) := by
  subst hv
  refine va_bald hexec hb hK hP 6 1 (NC_at (by decide)) rfl (vp_in_nI hj (by decide)) hdg ?_
  rw [nI_clamp (by omega)]
  exact kk
theorem nw_lO (hexec : p.tables.exec = Jvm.exec) (hb : c.code = cc) (hK : va_K D clA (tyA cI cB cR) s) (hP : va_P D clA (NC cI cB cR ad w) H) {j : Nat} (hj : j < 20000) {x : Int32} (hv : sO w j = x) (hdg : decode cc pc = .ok (.baload, 1))
    (kk : W p l e R s m args below meth c H locs cells slots Q (F0 m (pc + 1) ls (.int x :: rest))) : W p l e R s m args below meth c H locs cells slots Q (F0 m pc ls (.int (nI j) :: .ref (ad 7) :: rest)) := by
  subst hv
  refine va_bald hexec hb hK hP 7 1 (NC_at (by decide)) rfl (vp_in_nI hj (by decide)) hdg ?_
  rw [nI_clamp (by omega)]
  exact kk
theorem nw_lG (hexec : p.tables.exec = Jvm.exec) (hb : c.code = cc) (hK : va_K D clA (tyA cI cB cR) s) (hP : va_P D clA (NC cI cB cR ad w) H) {j : Nat} (hj : j < 10) (hdg : decode cc pc = .ok (.aaload, 1))
    (kk : W p l e R s m args below meth c H locs cells slots Q (F0 m (pc + 1) ls (.ref (ad (2 * j + 8)) :: rest))) : W p l e R s m args below meth c H locs cells slots Q (F0 m pc ls (.int (nI j) :: .ref (ad 1) :: rest)) := by
  refine va_aldq hexec hb hK hP 1 2 (NC_at (by decide)) rfl (vp_in_nI hj (by decide)) hdg ?_
  rw [nI_clamp (by omega)]
  exact kk
theorem nw_sW (hexec : p.tables.exec = Jvm.exec) (hb : c.code = cc) (hK : va_K D clA (tyA cI cB cR) s) (hP : va_P D clA (NC cI cB cR ad w) H) (hD : va_D A (NC cI cB cR ad w)) (hS : va_S A H0 H locs) {i : Nat} (hi : i < 14) {j : Nat} {x : Int32} (hj : j < 6272) (hdg : decode cc pc = .ok (.iastore, 1))
    (kk : ∀ (H1 : Heap) (locs1 : List Loc), va_P D clA (NC cI cB cR ad (pW w i (upd (sW w i) j x))) H1 → va_D A (NC cI cB cR ad (pW w i (upd (sW w i) j x))) → va_S A H0 H1 locs1 → W p l e R s m args below meth c H1 locs1 cells slots Q (F0 m (pc + 1) ls rest)) : W p l e R s m args below meth c H locs cells slots Q (F0 m pc ls (.int x :: .int (nI j) :: .ref (ad (2 * i + 9)) :: rest)) := by
  refine va_iast hexec hb hK hP hD hS (2 * i + 9) 0 (NC_w hi) rfl (vp_in_nI hj (by decide)) hdg (fun H1 locs1 h1 h2 h3 => ?_)
  rw [nI_clamp (by omega)] at h1 h2
  exact kk H1 locs1 (NC_pW hi ▸ h1) (NC_pW hi ▸ h2) h3
theorem nw_sR (hexec : p.tables.exec = Jvm.exec) (hb : c.code = cc) (hK : va_K D clA (tyA cI cB cR) s) (hP : va_P D clA (NC cI cB cR ad w) H) (hD : va_D A (NC cI cB cR ad w)) (hS : va_S A H0 H locs) {j : Nat} {x : Int32} (hj : j < 28672) (hdg : decode cc pc = .ok (.iastore, 1))
    (kk : ∀ (H1 : Heap) (locs1 : List Loc), va_P D clA (NC cI cB cR ad (pR w (upd (sR w) j x))) H1 → va_D A (NC cI cB cR ad (pR w (upd (sR w) j x))) → va_S A H0 H1 locs1 → W p l e R s m args below meth c H1 locs1 cells slots Q (F0 m (pc + 1) ls rest)) : W p l e R s m args below meth c H locs cells slots Q (F0 m pc ls (.int x :: .int (nI j) :: .ref (ad 3) :: rest)) := by
  refine va_iast hexec hb hK hP hD hS 3 0 (NC_at (by decide)) rfl (vp_in_nI hj (by decide)) hdg (fun H1 locs1 h1 h2 h3 => ?_)
  rw [nI_clamp (by omega)] at h1 h2
  exact kk H1 locs1 (NC_pR _ ▸ h1) (NC_pR _ ▸ h2) h3
theorem nw_sP (hexec : p.tables.exec = Jvm.exec) (hb : c.code = cc) (hK : va_K D clA (tyA cI cB cR) s) (hP : va_P D clA (NC cI cB cR ad w) H) (hD : va_D A (NC cI cB cR ad w)) (hS : va_S A H0 H locs) {j : Nat} {x : Int32} (hj : j < 4800) (hdg : decode cc pc = .ok (.iastore, 1))
    (kk : ∀ (H1 : Heap) (locs1 : List Loc), va_P D clA (NC cI cB cR ad (pP w (upd (sP w) j x))) H1 → va_D A (NC cI cB cR ad (pP w (upd (sP w) j x))) → va_S A H0 H1 locs1 → W p l e R s m args below meth c H1 locs1 cells slots Q (F0 m (pc + 1) ls rest)) : W p l e R s m args below meth c H locs cells slots Q (F0 m pc ls (.int x :: .int (nI j) :: .ref (ad 5) :: rest)) := by
  refine va_iast hexec hb hK hP hD hS 5 0 (NC_at (by decide)) rfl (vp_in_nI hj (by decide)) hdg (fun H1 locs1 h1 h2 h3 => ?_)
  rw [nI_clamp (by omega)] at h1 h2
  exact kk H1 locs1 (NC_pP _ ▸ h1) (NC_pP _ ▸ h2) h3
theorem nw_sT (hexec : p.tables.exec = Jvm.exec) (hb : c.code = cc) (hK : va_K D clA (tyA cI cB cR) s) (hP : va_P D clA (NC cI cB cR ad w) H) (hD : va_D A (NC cI cB cR ad w)) (hS : va_S A H0 H locs) {j : Nat} {x : Int32} (hj : j < 4096) (hdg : decode cc pc = .ok (.bastore, 1))
    (kk : ∀ (H1 : Heap) (locs1 : List Loc), va_P D clA (NC cI cB cR ad (pT w (upd (sT w) j (vp_nar .byte x)))) H1 → va_D A (NC cI cB cR ad (pT w (upd (sT w) j (vp_nar .byte x)))) → va_S A H0 H1 locs1 → W p l e R s m args below meth c H1 locs1 cells slots Q (F0 m (pc + 1) ls rest)) : W p l e R s m args below meth c H locs cells slots Q (F0 m pc ls (.int x :: .int (nI j) :: .ref (ad 6) :: rest)) := by
  refine va_bast hexec hb hK hP hD hS 6 1 (NC_at (by decide)) rfl (vp_in_nI hj (by decide)) hdg (fun H1 locs1 h1 h2 h3 => ?_)
  rw [nI_clamp (by omega)] at h1 h2
  exact kk H1 locs1 (NC_pT _ ▸ h1) (NC_pT _ ▸ h2) h3
theorem nw_sO (hexec : p.tables.exec = Jvm.exec) (hb : c.code = cc) (hK : va_K D clA (tyA cI cB cR) s) (hP : va_P D clA (NC cI cB cR ad w) H) (hD : va_D A (NC cI cB cR ad w)) (hS : va_S A H0 H locs) {j : Nat} {x : Int32} (hj : j < 20000) (hdg : decode cc pc = .ok (.bastore, 1))
    (kk : ∀ (H1 : Heap) (locs1 : List Loc), va_P D clA (NC cI cB cR ad (pO w (upd (sO w) j (vp_nar .byte x)))) H1 → va_D A (NC cI cB cR ad (pO w (upd (sO w) j (vp_nar .byte x)))) → va_S A H0 H1 locs1 → W p l e R s m args below meth c H1 locs1 cells slots Q (F0 m (pc + 1) ls rest)) : W p l e R s m args below meth c H locs cells slots Q (F0 m pc ls (.int x :: .int (nI j) :: .ref (ad 7) :: rest)) := by
  refine va_bast hexec hb hK hP hD hS 7 1 (NC_at (by decide)) rfl (vp_in_nI hj (by decide)) hdg (fun H1 locs1 h1 h2 h3 => ?_)
  rw [nI_clamp (by omega)] at h1 h2
  exact kk H1 locs1 (NC_pO _ ▸ h1) (NC_pO _ ▸ h2) h3
end WR

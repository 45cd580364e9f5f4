/-! THE REFERENCE'S CALLS: feed (rows laid by wip/whole/gen/c_mo6.py) -/
/-- the world with the five ints of feed -/
def NF (cI cB cR : ClassId) (ad : Nat → Nat) (w : Mt) (q : Nat) (cA : ClassId) (g : Nat → Int32) : va_W := NM cI cB cR ad w ++ [(q, .inl (cA, 5, .inl g))]
section NFs
variable {cI cB cR : ClassId} {ad : Nat → Nat} {w : Mt} {q : Nat} {cA : ClassId} {g : Nat → Int32}
theorem NF_at {k : Nat} (h : k < 42) : (NF cI cB cR ad w q cA g)[k]? = some (ad k, wm cI cB cR ad w k) := by
  unfold NF
  rw [List.getElem?_append_left (by rw [NM_len]; exact h), NM_at h]
theorem NF_5 : (NF cI cB cR ad w q cA g)[42]? = some (q, .inl (cA, 5, .inl g)) := by
  unfold NF
  rw [List.getElem?_append_right (by rw [NM_len]; exact Nat.le_refl _), NM_len]
  rfl
theorem NF_set5 (g' : Nat → Int32) : (NF cI cB cR ad w q cA g).set 42 (q, .inl (cA, 5, .inl g')) = NF cI cB cR ad w q cA g' := by
  unfold NF
  rw [List.set_append_right _ _ (by rw [NM_len]; exact Nat.le_refl _), NM_len]
  rfl
theorem NF_setT (f : Nat → Int32) : (NF cI cB cR ad w q cA g).set 2 (ad 2, .inl (cB, 4096, .inl f)) = NF cI cB cR ad (qT w f) q cA g := by
  unfold NF
  rw [List.set_append_left _ _ (by rw [NM_len]; decide), NM_qT]
theorem NF_P {D : va_G} {H : Heap} (h : va_P D clA (NF cI cB cR ad w q cA g) H) : va_P D clA (NM cI cB cR ad w) H := h.by id (fun k x hx => by
  have hl : k < 42 := by
    have := (List.getElem?_eq_some_iff.mp hx).1
    rw [NM_len] at this
    exact this
  show (NF cI cB cR ad w q cA g)[k]? = _
  rw [NF_at hl, ← NM_at hl]
  exact hx)
theorem NF_D {A : Nat → Prop} (h : va_D A (NF cI cB cR ad w q cA g)) : va_D A (NM cI cB cR ad w) := h.by id (fun k x hx => by
  have hl : k < 42 := by
    have := (List.getElem?_eq_some_iff.mp hx).1
    rw [NM_len] at this
    exact this
  show (NF cI cB cR ad w q cA g)[k]? = _
  rw [NF_at hl, ← NM_at hl]
  exact hx) (fun i j _ _ h => h)
end NFs
section NFr
variable {p : Program} {l : Launch} {e : Env} {R : Room} {s : State} {m : MethodId} {args : Array Value} {below : List Frame} {meth : Method} {c : Code} {H : Heap} {locs : List Loc} {cells slots : Nat} {Q : State → Prop}
variable {cc : ByteArray} {pc : Nat} {ls : Array Slot} {rest : List Value} {D : va_G} {A : Nat → Prop} {H0 : Heap} {cI cB cR cA : ClassId} {ad : Nat → Nat} {w : Mt} {own : String} {index q : Nat} {c0 : Cond} {g : Nat → Int32}
theorem nf_s5 (hexec : p.tables.exec = Jvm.exec) (hb : c.code = cc) (hK : va_K D clA (tyM cI cB cR ++ [(cA, .int)]) s) (hP : va_P D clA (NF cI cB cR ad w q cA g) H) (hD : va_D A (NF cI cB cR ad w q cA g)) (hS : va_S A H0 H locs) {j : Nat} {x : Int32} (hj : j < 5) (hdg : decode cc pc = .ok (.iastore, 1))
    (kk : ∀ (H1 : Heap) (locs1 : List Loc), va_P D clA (NF cI cB cR ad w q cA (upd g j x)) H1 → va_D A (NF cI cB cR ad w q cA (upd g j x)) → va_S A H0 H1 locs1 → W p l e R s m args below meth c H1 locs1 cells slots Q (F0 m (pc + 1) ls rest)) : W p l e R s m args below meth c H locs cells slots Q (F0 m pc ls (.int x :: .int (nI j) :: .ref q :: rest)) := by
  refine va_iast hexec hb hK hP hD hS 42 3 NF_5 rfl (vp_in_nI hj (by decide)) hdg (fun H1 locs1 h1 h2 h3 => ?_)
  rw [nI_clamp (by omega)] at h1 h2
  exact kk H1 locs1 (NF_set5 _ ▸ h1) (NF_set5 _ ▸ h2) h3
theorem nf_l5 (hexec : p.tables.exec = Jvm.exec) (hb : c.code = cc) (hK : va_K D clA (tyM cI cB cR ++ [(cA, .int)]) s) (hP : va_P D clA (NF cI cB cR ad w q cA g) H) {j : Nat} (hj : j < 5) {x : Int32} (hv : g j = x) (hdg : decode cc pc = .ok (.iaload, 1))
    (kk : W p l e R s m args below meth c H locs cells slots Q (F0 m (pc + 1) ls (.int x :: rest))) : W p l e R s m args below meth c H locs cells slots Q (F0 m pc ls (.int (nI j) :: .ref q :: rest)) := by
  subst hv
  refine va_iald hexec hb hK hP 42 3 NF_5 rfl (vp_in_nI hj (by decide)) hdg ?_
  rw [nI_clamp (by omega)]
  exact kk
theorem nf_sT (hexec : p.tables.exec = Jvm.exec) (hb : c.code = cc) (hK : va_K D clA (tyM cI cB cR ++ [(cA, .int)]) s) (hP : va_P D clA (NF cI cB cR ad w q cA g) H) (hD : va_D A (NF cI cB cR ad w q cA g)) (hS : va_S A H0 H locs) {j : Nat} {x : Int32} (hj : j < 4096) (hdg : decode cc pc = .ok (.bastore, 1))
    (kk : ∀ (H1 : Heap) (locs1 : List Loc), va_P D clA (NF cI cB cR ad (qT w (upd (mT w) j (vp_nar .byte x))) q cA g) H1 → va_D A (NF cI cB cR ad (qT w (upd (mT w) j (vp_nar .byte x))) q cA g) → va_S A H0 H1 locs1 → W p l e R s m args below meth c H1 locs1 cells slots Q (F0 m (pc + 1) ls rest)) : W p l e R s m args below meth c H locs cells slots Q (F0 m pc ls (.int x :: .int (nI j) :: .ref (ad 2) :: rest)) := by
  refine va_bast hexec hb hK hP hD hS 2 1 (NF_at (by decide)) rfl (vp_in_nI hj (by decide)) hdg (fun H1 locs1 h1 h2 h3 => ?_)
  rw [nI_clamp (by omega)] at h1 h2
  exact kk H1 locs1 (NF_setT _ ▸ h1) (NF_setT _ ▸ h2) h3
theorem nf_gT (hexec : p.tables.exec = Jvm.exec) (hb : c.code = cc) (hts : ∀ w ∈ c0 :: wA, w.before args s = true) (hown : s.vm.findClass own = some m.cls) (hK : va_K D clA (tyM cI cB cR ++ [(cA, .int)]) s) (hP : va_P D clA (NF cI cB cR ad w q cA g) H) (hlink : Cond.fieldLink own index "LimbWorksModel" "tape" "[B" ∈ wA) (hdg : decode cc pc = .ok (.getfield index, 3))
    (kk : W p l e R s m args below meth c H locs cells slots Q (F0 m (pc + 3) ls (.ref (ad 2) :: rest))) : W p l e R s m args below meth c H locs cells slots Q (F0 m pc ls (.ref (ad 0) :: rest)) :=
  va_get (ref := "LimbWorksModel") (C := R_Mo) (T := F_Mo) (N := 15) (ci := 4) hexec hb hts (fun w h => List.mem_cons_of_mem _ (i_Mo w h)) hown hK hP 0 (NF_at (by decide)) rfl 10 (by decide) (hA_ hts hlink) (fun _ h => h) rfl hdg kk
theorem nf_gA (hexec : p.tables.exec = Jvm.exec) (hb : c.code = cc) (hts : ∀ w ∈ c0 :: wA, w.before args s = true) (hown : s.vm.findClass own = some m.cls) (hK : va_K D clA (tyM cI cB cR ++ [(cA, .int)]) s) (hP : va_P D clA (NF cI cB cR ad w q cA g) H) {n : Nat} (hv : mA w = n) (hlink : Cond.fieldLink own index "LimbWorksModel" "tapeSize" "I" ∈ wA) (hdg : decode cc pc = .ok (.getfield index, 3))
    (kk : W p l e R s m args below meth c H locs cells slots Q (F0 m (pc + 3) ls (.int (nI n) :: rest))) : W p l e R s m args below meth c H locs cells slots Q (F0 m pc ls (.ref (ad 0) :: rest)) := by
  subst hv
  exact va_get (ref := "LimbWorksModel") (C := R_Mo) (T := F_Mo) (N := 15) (ci := 4) hexec hb hts (fun w h => List.mem_cons_of_mem _ (i_Mo w h)) hown hK hP 0 (NF_at (by decide)) rfl 12 (by decide) (hA_ hts hlink) (fun _ h => h) rfl hdg kk
end NFr
/-- the five ints -/
def fv5 (a b c d e : Int32) : Nat → Int32 := upd (upd (upd (upd (upd (fun _ => 0) 0 a) 1 b) 2 c) 3 d) 4 e
theorem fv5_at {A : Ab} {a b c d e : Int32} {t : Nat} (ht : t < 20) : byt (fv5 a b c d e (t / 4)) (t % 4) = fdT A a b c d e (aN A + t) := by
  unfold fdT
  rw [if_neg (by omega), show aN A + t - aN A = t by omega]
  congr 1
  unfold fv5
  rcases Nat.lt_or_ge t 4 with q | q
  · rw [if_pos q, show t / 4 = 0 by omega]; rfl
  rw [if_neg (by omega)]
  rcases Nat.lt_or_ge t 8 with q | q
  · rw [if_pos q, show t / 4 = 1 by omega]; rfl
  rw [if_neg (by omega)]
  rcases Nat.lt_or_ge t 12 with q | q
  · rw [if_pos q, show t / 4 = 2 by omega]; rfl
  rw [if_neg (by omega)]
  rcases Nat.lt_or_ge t 16 with q | q
  · rw [if_pos q, show t / 4 = 3 by omega]; rfl
  · rw [if_neg (by omega), show t / 4 = 4 by omega]; rfl
set_option maxHeartbeats 4000000 in
set_option maxRecDepth 100000 in
/-- feed0 -/
theorem c_Mo_feed0 (l : Launch) {D : va_G} {cI cB cR : ClassId} {ad : Nat → Nat} (w : Mt) (sz : Nat) (hl9 : l.stackTraces = false) (a b c9 d e9 : Int32) (A : Ab) (hMI : MI w A) : vx_Met l y_Mo_feed0 (q_Mo_feed0 :: wA) { frames := 12, cells := 1, slots := 6, locals := 260 } (va_Pc [.ref (ad 0), .int (a), .int (b), .int (c9), .int (d), .int (e9)] (PM D cI cB cR ad w sz)) (va_Qv (fun w1 : Mt => okm (mX w) (sp_feed a b c9 d e9 A) 0 w1) (BM D cI cB cR ad) (AM ad sz)) (XM D cI cB cR ad (fun E u => thm9 (sp_feed a b c9 d e9 A) E_IS E_IS E u) sz) 1 6 (AM ad sz) := by
  refine vx_ofW (cc := b_Mo_feed0) (maxL := 8) (ret := none) (by decide) rfl ?_
  intro p e s m args below meth c s₁ B hml htab hv
  obtain ⟨rfl, hsz, hP, hD0, hKW⟩ := hv
  have hx := B.exec
  have hb := B.bytes
  have hr := B.returns
  have hts := atoms_spec (ws := q_Mo_feed0 :: wA) B.pre
  have hown : s.vm.findClass R_Mo = some m.cls := findClass_of_methodNamed B.named
  have hlocks := B.notSynchronized
  subst hsz
  have hD := NM_AM (sz := s.heap.size) hD0
  have hS : va_S (AM ad s.heap.size) s.heap s.heap [] := va_S.rf
  have hl := lv_entry ([.ref (ad 0), .int (a), .int (b), .int (c9), .int (d), .int (e9)]) (n := 8) (Nat.le_of_ble_eq_true rfl)
  rw [lg_entry_eq]
  generalize (lg_sl ([.ref (ad 0), .int (a), .int (b), .int (c9), .int (d), .int (e9)]) ++ List.replicate (8 - (lg_sl ([.ref (ad 0), .int (a), .int (b), .int (c9), .int (d), .int (e9)])).length) Slot.unset).toArray = ls at hl ⊢
  have hl : lv_has ls 8 [(0, .ref (ad 0)), (1, .int (a)), (2, .int (b)), (3, .int (c9)), (4, .int (d)), (5, .int (e9))] := hl
  have h3 := hMI.w3
  obtain ⟨hsA, hn9, hTT⟩ := hMI.2.2.1
  refine lv_aload_n hx hb d_Mo_feed0_0 rfl (lv_at hl 0 rfl) ?_
  refine mw_gF12 hx hb hts hown hKW.1 hP (n := aN A) hsA lf_Mo_165 d_Mo_feed0_1 ?_
  refine lv_bipush (v := nI (20)) hx hb d_Mo_feed0_4 (by decide) ?_
  refine nw_iadd (v := nI (aN A + 20)) hx hb d_Mo_feed0_6 (nI_add _ _) ?_
  refine lv_aload_n hx hb d_Mo_feed0_7 rfl (lv_at hl 0 rfl) ?_
  refine mw_gF10 hx hb hts hown hKW.1 hP lf_Mo_46 d_Mo_feed0_8 ?_
  refine mw_nT hx hb hKW.1 hP d_Mo_feed0_11 ?_
  refine lv_icmp_le (tgt := 23) hx hb d_Mo_feed0_12 (by decide) (fun c12 => ?_) (fun c12 => ?_)
  · skip
    have c12 : aN A + 20 ≤ 4096 := (nI_leI (by omega) (by omega)).mp c12
    refine lv_iconst (v := nI (5)) hx hb d_Mo_feed0_23 (by decide) ?_
    refine va_newa (atype := .int) hx hb (hA_ hts ac_int) (ty := .int) rfl hKW.1 hP hD hS (fun q h => Or.inr h) (a0 := (5, .inl (fun _ => 0))) (fun cA => rfl) (by decide) (N' := 5) (by decide) (by decide) (Nat.le_of_ble_eq_true rfl) (Nat.le_of_ble_eq_true rfl) d_Mo_feed0_24 (fun q cA H hK hP hD hS => ?_)
    have hP : va_P D clA (NF cI cB cR ad w q cA (fun _ => 0)) H := hP
    have hD : va_D (AM ad s.heap.size) (NF cI cB cR ad w q cA (fun _ => 0)) := hD
    refine lv_dup hx hb d_Mo_feed0_26 rfl ?_
    refine lv_iconst (v := nI (0)) hx hb d_Mo_feed0_27 (by decide) ?_
    refine lv_iload_n hx hb d_Mo_feed0_28 rfl (lv_at hl 1 rfl) ?_
    refine nf_s5 hx hb hK hP hD hS (j := 0) (by decide) d_Mo_feed0_29 (fun H locs hP hD hS => ?_)
    refine lv_dup hx hb d_Mo_feed0_30 rfl ?_
    refine lv_iconst (v := nI (1)) hx hb d_Mo_feed0_31 (by decide) ?_
    refine lv_iload_n hx hb d_Mo_feed0_32 rfl (lv_at hl 2 rfl) ?_
    refine nf_s5 hx hb hK hP hD hS (j := 1) (by decide) d_Mo_feed0_33 (fun H locs hP hD hS => ?_)
    refine lv_dup hx hb d_Mo_feed0_34 rfl ?_
    refine lv_iconst (v := nI (2)) hx hb d_Mo_feed0_35 (by decide) ?_
    refine lv_iload_n hx hb d_Mo_feed0_36 rfl (lv_at hl 3 rfl) ?_
    refine nf_s5 hx hb hK hP hD hS (j := 2) (by decide) d_Mo_feed0_37 (fun H locs hP hD hS => ?_)
    refine lv_dup hx hb d_Mo_feed0_38 rfl ?_
    refine lv_iconst (v := nI (3)) hx hb d_Mo_feed0_39 (by decide) ?_
    refine lv_iload hx hb d_Mo_feed0_40 (lv_at hl 4 rfl) ?_
    refine nf_s5 hx hb hK hP hD hS (j := 3) (by decide) d_Mo_feed0_42 (fun H locs hP hD hS => ?_)
    refine lv_dup hx hb d_Mo_feed0_43 rfl ?_
    refine lv_iconst (v := nI (4)) hx hb d_Mo_feed0_44 (by decide) ?_
    refine lv_iload hx hb d_Mo_feed0_45 (lv_at hl 5 rfl) ?_
    refine nf_s5 hx hb hK hP hD hS (j := 4) (by decide) d_Mo_feed0_47 (fun H locs hP hD hS => ?_)
    have hP : va_P D clA (NF cI cB cR ad w q cA (fv5 a b c9 d e9)) H := hP
    have hD : va_D (AM ad s.heap.size) (NF cI cB cR ad w q cA (fv5 a b c9 d e9)) := hD
    refine lv_astore (lv' := [(6, .ref (q)), (0, .ref (ad 0)), (1, .int (a)), (2, .int (b)), (3, .int (c9)), (4, .int (d)), (5, .int (e9))]) hx hb d_Mo_feed0_48 hl (by decide) rfl (fun ls hl => ?_)
    refine lv_iconst (v := nI (0)) hx hb d_Mo_feed0_50 (by decide) ?_
    refine lv_istore (lv' := [(7, .int (nI (0))), (6, .ref (q)), (0, .ref (ad 0)), (1, .int (a)), (2, .int (b)), (3, .int (c9)), (4, .int (d)), (5, .int (e9))]) hx hb d_Mo_feed0_51 hl (by decide) rfl (fun ls hl => ?_)
    have loop : ∀ (r t : Nat) (f : Nat → Int32) (H : Heap) (locs : List Loc) (ls : Array Slot), t + r = 20 → (∀ j, j < aN A → f j = aT A j) → (∀ z, z < t → f (aN A + z) = fdT A a b c9 d e9 (aN A + z)) → va_P D clA (NF cI cB cR ad (qT w f) q cA (fv5 a b c9 d e9)) H → va_D (AM ad s.heap.size) (NF cI cB cR ad (qT w f) q cA (fv5 a b c9 d e9)) → va_S (AM ad s.heap.size) s.heap H locs → lv_has ls 8 [(7, .int (nI (t))), (6, .ref (q)), (0, .ref (ad 0))] → W p l e (headSpec (q_Mo_feed0 :: wA) { frames := 12, cells := 1, slots := 6, locals := 260 }).room s m ([.ref (ad 0), .int (a), .int (b), .int (c9), .int (d), .int (e9)] : List Value).toArray below meth c H locs (0 + 1) (0 + 5) (vx_MQ below (va_Qv (fun w1 : Mt => okm (mX w) (sp_feed a b c9 d e9 A) 0 w1) (BM D cI cB cR ad) (AM ad s.heap.size)) (XM D cI cB cR ad (fun E u => thm9 (sp_feed a b c9 d e9 A) E_IS E_IS E u) s.heap.size) ([.ref (ad 0), .int (a), .int (b), .int (c9), .int (d), .int (e9)] : List Value).toArray s 1 6 (AM ad s.heap.size)) (F0 m 53 ls []) := by
      intro r
      induction r with
      | zero =>
        intro t f H locs ls ht hf1 hf2 hP hD hS hl
        refine lv_iload hx hb d_Mo_feed0_53 (lv_at hl 0 rfl) ?_
        refine lv_bipush (v := nI (20)) hx hb d_Mo_feed0_55 (by decide) ?_
        refine lv_icmp_ge (tgt := 97) hx hb d_Mo_feed0_57 (by decide) (fun c57 => ?_) (fun c57 => ?_)
        · skip
          have c57 : 20 ≤ t := (nI_leI (by omega) (by omega)).mp c57
          have et : t = 20 := by omega
          subst et
          have hP := NF_P hP
          have hD := NF_D hD
          refine lv_aload_n hx hb d_Mo_feed0_97 rfl (lv_at hl 2 rfl) ?_
          refine lv_dup hx hb d_Mo_feed0_98 rfl ?_
          refine mw_gF12 hx hb hts hown hKW.1 hP (n := aN A) hsA lf_Mo_165 d_Mo_feed0_99 ?_
          refine lv_bipush (v := nI (20)) hx hb d_Mo_feed0_102 (by decide) ?_
          refine nw_iadd (v := nI (aN A + 20)) hx hb d_Mo_feed0_104 (nI_add _ _) ?_
          refine mw_pA hx hb hts hown hKW.1 hP hD hS lf_Mo_165 d_Mo_feed0_105 (fun H locs hP hD hS => ?_)
          exact vx_ret (W.widen (k := 1) (n := 6) (Nat.le_of_ble_eq_true rfl) (Nat.le_of_ble_eq_true rfl) (W.vret hx hb hr (fun t ht hW => ⟨⟨qA (qT w f) (aN A + 20), rfl, ⟨(A.1, fdT A a b c9 d e9, aN A + 20, A.2.2.2), ⟨hMI.1, hMI.2.1, ⟨rfl, c12, fun j hj => by rcases Nat.lt_or_ge j (aN A) with z | z; exact (hf1 j z).trans (if_pos z).symm; obtain ⟨y, rfl⟩ : ∃ y, j = aN A + y := ⟨j - aN A, by omega⟩; exact hf2 y (by have : aN A + y < aN A + 20 := hj; omega)⟩, hMI.2.2.2⟩, rfl, by unfold sp_feed; rw [if_pos c12]⟩, BM_of ht hP⟩, hS.F ht⟩) hS.2.2 d_Mo_feed0_108))
        · skip
          have c57 : ¬ (20 ≤ t) := fun h => c57 ((nI_leI (by omega) (by omega)).mpr h)
          omega
      | succ r ih =>
        intro t f H locs ls ht hf1 hf2 hP hD hS hl
        refine lv_iload hx hb d_Mo_feed0_53 (lv_at hl 0 rfl) ?_
        refine lv_bipush (v := nI (20)) hx hb d_Mo_feed0_55 (by decide) ?_
        refine lv_icmp_ge (tgt := 97) hx hb d_Mo_feed0_57 (by decide) (fun c57 => ?_) (fun c57 => ?_)
        · skip
          have c57 : 20 ≤ t := (nI_leI (by omega) (by omega)).mp c57
          omega
        · skip
          have c57 : ¬ (20 ≤ t) := fun h => c57 ((nI_leI (by omega) (by omega)).mpr h)
          refine lv_aload_n hx hb d_Mo_feed0_60 rfl (lv_at hl 2 rfl) ?_
          refine nf_gT hx hb hts hown hK hP lf_Mo_46 d_Mo_feed0_61 ?_
          refine lv_aload_n hx hb d_Mo_feed0_64 rfl (lv_at hl 2 rfl) ?_
          refine nf_gA hx hb hts hown hK hP (n := aN A) hsA lf_Mo_165 d_Mo_feed0_65 ?_
          refine lv_iload hx hb d_Mo_feed0_68 (lv_at hl 0 rfl) ?_
          refine nw_iadd (v := nI (aN A + t)) hx hb d_Mo_feed0_70 (nI_add _ _) ?_
          refine lv_aload hx hb d_Mo_feed0_71 (lv_at hl 1 rfl) ?_
          refine lv_iload hx hb d_Mo_feed0_73 (lv_at hl 0 rfl) ?_
          refine lv_iconst (v := nI (4)) hx hb d_Mo_feed0_75 (by decide) ?_
          refine nw_idiv (v := nI (t / 4)) hx hb d_Mo_feed0_76 (nI_ne0 (by omega) (by omega)) (pk_div (by omega) (by omega) (by omega)) ?_
          refine nf_l5 hx hb hK hP (j := t / 4) (by omega) rfl d_Mo_feed0_77 ?_
          refine lv_bipush (v := nI (24)) hx hb d_Mo_feed0_78 (by decide) ?_
          refine lv_bipush (v := nI (8)) hx hb d_Mo_feed0_80 (by decide) ?_
          refine lv_iload hx hb d_Mo_feed0_82 (lv_at hl 0 rfl) ?_
          refine lv_iconst (v := nI (4)) hx hb d_Mo_feed0_84 (by decide) ?_
          refine nw_irem (v := nI (t % 4)) hx hb d_Mo_feed0_85 (nI_ne0 (by omega) (by omega)) (pk_rem (by omega) (by omega) (by omega)) ?_
          refine nw_imul (v := nI (8 * (t % 4))) hx hb d_Mo_feed0_86 (pk_mul _ _) ?_
          refine nw_isub (v := nI (24 - (8 * (t % 4)))) hx hb d_Mo_feed0_87 (pk_sub (by omega)) ?_
          refine nw_ishr (v := fv5 a b c9 d e9 (t / 4) >>> (nI (24 - 8 * (t % 4)) &&& 31)) hx hb d_Mo_feed0_88 rfl ?_
          refine lv_i2b (v := (fv5 a b c9 d e9 (t / 4) >>> (nI (24 - 8 * (t % 4)) &&& 31)).toInt8.toInt32) hx hb d_Mo_feed0_89 rfl ?_
          refine nf_sT hx hb hK hP hD hS (j := aN A + t) (by omega) d_Mo_feed0_90 (fun H locs hP hD hS => ?_)
          refine lv_iinc (v := nI (t + 1)) (lv' := [(7, .int (nI (t + 1))), (6, .ref (q)), (0, .ref (ad 0))]) hx hb d_Mo_feed0_91 hl (k := 0) rfl (nI_add _ 1) (by decide) rfl (fun ls hl => ?_)
          refine lv_goto (tgt := 53) hx hb d_Mo_feed0_94 (by decide) ?_
          refine ih (t + 1) _ H locs ls (by omega) (fun j hj => (pk_un (by omega)).trans (hf1 j hj)) (fun z hz => ?_) hP hD hS (lv_sub hl [0, 1, 2] rfl)
          rcases Nat.lt_or_ge z t with z9 | z9
          · exact (pk_un (by omega)).trans (hf2 z z9)
          · rw [show z = t by omega, ← fv5_at (by omega)]
            show upd f (aN A + t) _ (aN A + t) = _
            rw [pk_us, nar_i2b]
            rfl
    exact loop 20 0 (mT w) _ _ ls (by omega) hTT (fun z hz => absurd hz (by omega)) hP hD hS (lv_sub hl [0, 1, 2] rfl)
  · skip
    have c12 : ¬ (aN A + 20 ≤ 4096) := fun h => c12 ((nI_leI (by omega) (by omega)).mpr h)
    exact ythrow hx hb hl9 hown (by decide) hts ta_Mo_IS tb_Mo_IS tg_Mo_IS tk_Mo_IS ti_IS hKW hP hS (hl.1.trans hml.symm) d_Mo_feed0_15 d_Mo_feed0_18 d_Mo_feed0_19 d_Mo_feed0_22 htab hlocks (Nat.le_of_ble_eq_true rfl) (Nat.le_of_ble_eq_true rfl) (Nat.le_of_ble_eq_true rfl) (Nat.le_of_ble_eq_true rfl) (Nat.le_of_ble_eq_true rfl) (Nat.le_of_ble_eq_true rfl) (⟨A, hMI, Or.inl ⟨rfl, by unfold sp_feed; rw [if_neg c12]⟩⟩)

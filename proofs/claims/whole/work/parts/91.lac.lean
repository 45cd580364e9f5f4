/-! THE LAW'S CASES (rows laid by wip/whole/gen/c_la3.py) -/
theorem le2_set (x : Int32) (v : Int64) (A : Ab) : (sp_set x v A).1 ≤ 2 := by
  unfold sp_set
  repeat' split
  all_goals (show (_ : Nat) ≤ 2; omega)
theorem le2_copy (x y : Int32) (A : Ab) : (sp_copy x y A).1 ≤ 2 := by
  unfold sp_copy
  repeat' split
  all_goals (show (_ : Nat) ≤ 2; omega)
theorem le2_shift (x y z : Int32) (A : Ab) : (sp_shift x y z A).1 ≤ 2 := by
  unfold sp_shift
  repeat' split
  all_goals (show (_ : Nat) ≤ 2; omega)
theorem le2_add (x y z : Int32) (A : Ab) : (sp_add x y z A).1 ≤ 2 := by
  unfold sp_add
  repeat' split
  all_goals (show (_ : Nat) ≤ 2; omega)
theorem le2_subtract (x y z : Int32) (A : Ab) : (sp_subtract x y z A).1 ≤ 2 := by
  unfold sp_subtract
  repeat' split
  all_goals (show (_ : Nat) ≤ 2; omega)
theorem le2_times (x y z : Int32) (A : Ab) : (sp_times x y z A).1 ≤ 2 := by
  unfold sp_times
  repeat' split
  all_goals (show (_ : Nat) ≤ 2; omega)
theorem le2_divide (x y z q : Int32) (A : Ab) : (sp_divide x y z q A).1 ≤ 2 := by
  unfold sp_divide
  repeat' split
  all_goals (show (_ : Nat) ≤ 2; omega)
theorem le2_power (x y z : Int32) (A : Ab) : (sp_power x y z A).1 ≤ 2 := by
  unfold sp_power
  repeat' split
  all_goals (show (_ : Nat) ≤ 2; omega)
theorem le2_root (x y z : Int32) (A : Ab) : (sp_root x y z A).1 ≤ 2 := by
  unfold sp_root
  repeat' split
  all_goals (show (_ : Nat) ≤ 2; omega)
theorem le2_compare (x y : Int32) (A : Ab) : (sp_compare x y A).1 ≤ 2 := by
  unfold sp_compare
  repeat' split
  all_goals (show (_ : Nat) ≤ 2; omega)
theorem le2_bits (x : Int32) (A : Ab) : (sp_bits x A).1 ≤ 2 := by
  unfold sp_bits
  repeat' split
  all_goals (show (_ : Nat) ≤ 2; omega)
theorem le2_word (x y : Int32) (A : Ab) : (sp_word x y A).1 ≤ 2 := by
  unfold sp_word
  repeat' split
  all_goals (show (_ : Nat) ≤ 2; omega)
theorem le2_feed (a b c d e : Int32) (A : Ab) : (sp_feed a b c d e A).1 ≤ 2 := by
  unfold sp_feed
  repeat' split
  all_goals (show (_ : Nat) ≤ 2; omega)
theorem le2_end (x : Int32) (A : Ab) : (sp_end x A).1 ≤ 2 := by
  unfold sp_end
  repeat' split
  all_goals (show (_ : Nat) ≤ 2; omega)
theorem le2_read (x y : Int32) (A : Ab) : (sp_read x y A).1 ≤ 2 := by
  unfold sp_read
  repeat' split
  all_goals (show (_ : Nat) ≤ 2; omega)
theorem le2_write (x y : Int32) (A : Ab) : (sp_write x y A).1 ≤ 2 := by
  unfold sp_write
  repeat' split
  all_goals (show (_ : Nat) ≤ 2; omega)
theorem le2_octet (x : Int32) (A : Ab) : (sp_octet x A).1 ≤ 2 := by
  unfold sp_octet
  repeat' split
  all_goals (show (_ : Nat) ≤ 2; omega)
set_option maxHeartbeats 4000000 in
set_option maxRecDepth 100000 in
theorem lk_set {p : Program} {e : Env} {s : State} {m : MethodId} {below : List Frame} {meth : Method} {c : Code} {l : Launch} (hl9 : l.stackTraces = false) {b L : Nat} {xs : Nat → Int32} (hL : L ≤ 3072) (C0 : lw_At p s m meth c b L xs) {D : va_G} {cI cB cRc cRm cL : ClassId} {adC adM : Nat → Nat} {qo : Nat} (K : LK D cI cB cRc cRm cL adC adM qo s) {i : Nat} (hi : i + 6 ≤ L) {w : St} {u : Mt} {f : Nat → Int64} {A : Ab} (hCI : CI w A) (hMI : MI u A) {H : Heap} {locs : List Loc} {ls : Array Slot} {cs sl : Nat} (hcs : cs + 20 ≤ 601024) (hsl : sl + 200 ≤ 7293034) (hC : va_P D clA (NC cI cB cRc adC w) H) (hM : va_P D clA (NM cI cB cRm adM u) H) (hO : va_P D clA (OC cL qo f) H) (hS : va_S (AL s) s.heap H locs) (hl : lv_has ls 8 [(4, .int (nI (i))), (0, .ref (b)), (1, .ref (adC 0)), (2, .ref (adM 0)), (3, .ref (qo))])
    (kk : ∀ (w : St) (u : Mt) (f : Nat → Int64) (A : Ab) (H : Heap) (locs : List Loc) (ls : Array Slot), CI w A → MI u A → va_P D clA (NC cI cB cRc adC w) H → va_P D clA (NM cI cB cRm adM u) H → va_P D clA (OC cL qo f) H → va_S (AL s) s.heap H locs → lv_has ls 8 [(4, .int (nI (i))), (0, .ref (b)), (1, .ref (adC 0)), (2, .ref (adM 0)), (3, .ref (qo))] → W p l e room_1 s m #[Value.ref b] below meth c H locs (cs + 1 + 1 + 0) (sl + 6 + 6 + 0) (lw_Z below #[Value.ref b] s) (F0 m 1387 ls [])) : W p l e room_1 s m #[Value.ref b] below meth c H locs (cs) (sl) (lw_Z below #[Value.ref b] s) (F0 m 124 ls []) := by
  obtain ⟨hx, hb, hr, hml, hown, htb, hX, hbl, hlocks, hgv⟩ := C0
  have hown : s.vm.findClass R_La = some m.cls := hown
  have hts : ∀ w ∈ q_La_set :: wA, w.before #[Value.ref b] s = true := fun w hw => htb w (wA_in (by rcases List.mem_cons.mp hw with z | z; rw [z]; exact kq_La_set; exact z))
  refine lv_aload_n hx hb d_law_124 rfl (lv_at hl 2 rfl) ?_
  refine lv_aload_n hx hb d_law_125 rfl (lv_at hl 1 rfl) ?_
  refine lv_iload hx hb d_law_126 (lv_at hl 0 rfl) ?_
  refine lv_iconst (v := nI (1)) hx hb d_law_128 (by decide) ?_
  refine nw_iadd (v := nI (i + 1)) hx hb d_law_129 (nI_add _ _) ?_
  refine lb_sc hx hb hX hbl hS (j := i + 1) (by omega) hL (v := xs (i + 1)) rfl d_law_130 ?_
  refine lv_aload_n hx hb d_law_131 rfl (lv_at hl 1 rfl) ?_
  refine lv_iload hx hb d_law_132 (lv_at hl 0 rfl) ?_
  refine lv_iconst (v := nI (2)) hx hb d_law_134 (by decide) ?_
  refine nw_iadd (v := nI (i + 2)) hx hb d_law_135 (nI_add _ _) ?_
  refine lb_sc hx hb hX hbl hS (j := i + 2) (by omega) hL (v := xs (i + 2)) rfl d_law_136 ?_
  refine lv_i2l (v := (xs (i + 2)).toInt64) hx hb d_law_137 rfl ?_
  refine lv_bipush (v := nI (32)) hx hb d_law_138 (by decide) ?_
  refine lv_lshl (v := ((xs (i + 2)).toInt64) <<< ((nI (32)).toInt64 &&& 63)) hx hb d_law_140 rfl ?_
  refine lv_aload_n hx hb d_law_141 rfl (lv_at hl 1 rfl) ?_
  refine lv_iload hx hb d_law_142 (lv_at hl 0 rfl) ?_
  refine lv_iconst (v := nI (3)) hx hb d_law_144 (by decide) ?_
  refine nw_iadd (v := nI (i + 3)) hx hb d_law_145 (nI_add _ _) ?_
  refine lb_sc hx hb hX hbl hS (j := i + 3) (by omega) hL (v := xs (i + 3)) rfl d_law_146 ?_
  refine lv_i2l (v := (xs (i + 3)).toInt64) hx hb d_law_147 rfl ?_
  refine lv_ldc2 (v := 4294967295) hx hb hown (hA_ hts ll_La_81) d_law_148 ?_
  refine nw_land (v := lN (wN ((xs (i + 3))))) hx hb d_law_151 (lw_low _) ?_
  refine nw_lor (v := (((xs (i + 2)).toInt64) <<< ((nI (32)).toInt64 &&& 63)) ||| (lN (wN ((xs (i + 3)))))) hx hb d_law_152 rfl ?_
  refine lv_aload_n hx hb d_law_153 rfl (lv_at hl 4 rfl) ?_
  obtain ⟨R9, hR9⟩ : ∃ R9, R9 = sp_set (xs (i + 1)) ((((xs (i + 2)).toInt64) <<< ((nI (32)).toInt64 &&& 63)) ||| (lN (wN ((xs (i + 3)))))) A := ⟨_, rfl⟩
  have h2 : R9.1 ≤ 2 := by rw [hR9]; exact le2_set (xs (i + 1)) ((((xs (i + 2)).toInt64) <<< ((nI (32)).toInt64 &&& 63)) ||| (lN (wN ((xs (i + 3)))))) A
  refine lb_H (own := R_La) (As := [.ref (adC 0), .int (xs (i + 1)), .long ((((xs (i + 2)).toInt64) <<< ((nI (32)).toInt64 &&& 63)) ||| (lN (wN ((xs (i + 3)))))), .ref (qo)]) (rest := []) (n := 4) ⟨hx, hb, hml, hown, hts⟩ K (c_La_set l w f _ hl9 (xs (i + 1)) ((((xs (i + 2)).toInt64) <<< ((nI (32)).toInt64 &&& 63)) ||| (lN (wN ((xs (i + 3)))))) A hCI) (vx_cwSW 4 hts (gSo lm_La_83 st_La_set in_La kq_La_set) rfl rfl rfl (by decide +kernel) ⟨Nat.le_of_ble_eq_true rfl, Nat.le_of_ble_eq_true rfl⟩) hC hM hO hS rfl hl.1 rfl (Nat.le_of_ble_eq_true rfl) d_law_154 ⟨by show cs + 1 ≤ 601024; omega, by show sl + 6 ≤ 7293034; omega⟩ (fun r w1 f1 H locs hp hC hM hO hS => ?_)
  rw [← hR9] at hp
  obtain ⟨hCI1, hr1, ha1⟩ := hp
  subst hr1
  refine lv_istore (lv' := [(5, .int (nI (R9.1))), (4, .int (nI (i))), (0, .ref (b)), (1, .ref (adC 0)), (2, .ref (adM 0)), (3, .ref (qo))]) hx hb d_law_157 hl (by decide) rfl (fun ls hl => ?_)
  refine lv_aload_n hx hb d_law_159 rfl (lv_at hl 4 rfl) ?_
  refine lv_aload_n hx hb d_law_160 rfl (lv_at hl 2 rfl) ?_
  refine lv_iload hx hb d_law_161 (lv_at hl 1 rfl) ?_
  refine lv_iconst (v := nI (1)) hx hb d_law_163 (by decide) ?_
  refine nw_iadd (v := nI (i + 1)) hx hb d_law_164 (nI_add _ _) ?_
  refine lb_sc hx hb hX hbl hS (j := i + 1) (by omega) hL (v := xs (i + 1)) rfl d_law_165 ?_
  refine lv_aload_n hx hb d_law_166 rfl (lv_at hl 2 rfl) ?_
  refine lv_iload hx hb d_law_167 (lv_at hl 1 rfl) ?_
  refine lv_iconst (v := nI (2)) hx hb d_law_169 (by decide) ?_
  refine nw_iadd (v := nI (i + 2)) hx hb d_law_170 (nI_add _ _) ?_
  refine lb_sc hx hb hX hbl hS (j := i + 2) (by omega) hL (v := xs (i + 2)) rfl d_law_171 ?_
  refine lv_i2l (v := (xs (i + 2)).toInt64) hx hb d_law_172 rfl ?_
  refine lv_bipush (v := nI (32)) hx hb d_law_173 (by decide) ?_
  refine lv_lshl (v := ((xs (i + 2)).toInt64) <<< ((nI (32)).toInt64 &&& 63)) hx hb d_law_175 rfl ?_
  refine lv_aload_n hx hb d_law_176 rfl (lv_at hl 2 rfl) ?_
  refine lv_iload hx hb d_law_177 (lv_at hl 1 rfl) ?_
  refine lv_iconst (v := nI (3)) hx hb d_law_179 (by decide) ?_
  refine nw_iadd (v := nI (i + 3)) hx hb d_law_180 (nI_add _ _) ?_
  refine lb_sc hx hb hX hbl hS (j := i + 3) (by omega) hL (v := xs (i + 3)) rfl d_law_181 ?_
  refine lv_i2l (v := (xs (i + 3)).toInt64) hx hb d_law_182 rfl ?_
  refine lv_ldc2 (v := 4294967295) hx hb hown (hA_ hts ll_La_81) d_law_183 ?_
  refine nw_land (v := lN (wN ((xs (i + 3))))) hx hb d_law_186 (lw_low _) ?_
  refine nw_lor (v := (((xs (i + 2)).toInt64) <<< ((nI (32)).toInt64 &&& 63)) ||| (lN (wN ((xs (i + 3)))))) hx hb d_law_187 rfl ?_
  refine lb_Mi (own := R_La) (C := R_Mo) (As := [.int (xs (i + 1)), .long ((((xs (i + 2)).toInt64) <<< ((nI (32)).toInt64 &&& 63)) ||| (lN (wN ((xs (i + 3))))))]) (rest := []) (n := 2) ⟨hx, hb, hml, hown, hts⟩ K (by have h := c_Mo_set l (D := D) (cI := cI) (cB := cB) (cR := cRm) (ad := adM) u H.size hl9 (xs (i + 1)) (V := uL ((((xs (i + 2)).toInt64) <<< ((nI (32)).toInt64 &&& 63)) ||| (lN (wN ((xs (i + 3))))))) (uL_lt _) A hMI; rw [lN_uL] at h; exact h) (vx_cwVW 2 hts (gV lm_La_88 im_Mo_set se_Mo_set in_Mo kq_Mo_set) rfl rfl rfl (by decide +kernel) ⟨Nat.le_of_ble_eq_true rfl, Nat.le_of_ble_eq_true rfl⟩) (recMo K.kM hM) hC hM hO hS rfl hl.1 rfl (Nat.le_of_ble_eq_true rfl) d_law_188 ⟨by show cs + 1 + 1 ≤ 601024; omega, by show sl + 6 + 6 ≤ 7293034; omega⟩ (fun r2 u1 H locs hp hC hM hO hS => ?_)
  rw [← hR9] at hp
  obtain ⟨hMI1, hX1, hb1⟩ := hp
  refine lv_istore (lv' := [(6, .int (r2)), (5, .int (nI (R9.1))), (4, .int (nI (i))), (0, .ref (b)), (1, .ref (adC 0)), (2, .ref (adM 0)), (3, .ref (qo))]) hx hb d_law_191 hl (by decide) rfl (fun ls hl => ?_)
  refine lv_aload_n hx hb d_law_193 rfl (lv_at hl 5 rfl) ?_
  refine lb_T (own := R_La) (C := R_Mo) (As := []) (rest := []) (n := 0) ⟨hx, hb, hml, hown, hts⟩ K (c_Mo_thrown l u1 _) (cwV0 0 hts lm_La_89 im_Mo_thrown se_Mo_thrown in_Mo kq_Mo_thrown rfl rfl rfl (by decide +kernel) ⟨Nat.le_of_ble_eq_true rfl, Nat.le_of_ble_eq_true rfl⟩) (recMo K.kM hM) hC hM hO hS rfl hl.1 rfl (Nat.le_of_ble_eq_true rfl) d_law_194 ⟨by show cs + 1 + 1 + 0 ≤ 601024; omega, by show sl + 6 + 6 + 0 ≤ 7293034; omega⟩ (fun r3 u2 H locs hp hC hM hO hS => ?_)
  obtain ⟨hr3, hu2⟩ := hp
  rw [hX1] at hr3
  subst hr3
  rw [hu2] at hM
  refine lv_iload hx hb d_law_197 (lv_at hl 1 rfl) ?_
  refine lv_icmp_eq (tgt := 204) hx hb d_law_199 (by decide) (fun _ => ?_) (fun z => absurd rfl z)
  refine lv_iload hx hb d_law_204 (lv_at hl 1 rfl) ?_
  by_cases h0 : R9.1 = 0
  · refine lv_if_ne (tgt := 221) hx hb d_law_206 (by decide) (fun z => absurd (by rw [h0]; exact nI_0) z) (fun _ => ?_)
    have hr2 := hb1 h0
    subst hr2
    refine lv_aload_n hx hb d_law_209 rfl (lv_at hl 6 rfl) ?_
    refine lv_iconst (v := nI (0)) hx hb d_law_210 (by decide) ?_
    refine lb_ld hx hb K hO (v := (R9.2.1).toInt64) (ha1 h0) d_law_211 ?_
    refine lv_iload hx hb d_law_212 (lv_at hl 0 rfl) ?_
    refine lv_i2l (v := R9.2.1.toInt64) hx hb d_law_214 rfl ?_
    refine W.lcmp hx hb d_law_215 ?_
    refine lv_if_eq (tgt := 221) hx hb d_law_216 (by decide) (fun _ => ?_) (fun z => absurd ((lg_cmp_eq _ _).mpr rfl) z)
    refine lv_goto (tgt := 1387) hx hb d_law_221 (by decide) ?_
    exact kk w1 u1 f1 R9.2.2 H locs ls hCI1 hMI1 hC hM hO hS (lv_sub hl [2, 3, 4, 5, 6] rfl)
  · refine lv_if_ne (tgt := 221) hx hb d_law_206 (by decide) (fun _ => ?_) (fun z => absurd ((nI_eq (by omega) (by omega)).mp (by rw [nI_0]; exact z)) h0)
    refine lv_goto (tgt := 1387) hx hb d_law_221 (by decide) ?_
    exact kk w1 u1 f1 R9.2.2 H locs ls hCI1 hMI1 hC hM hO hS (lv_sub hl [2, 3, 4, 5, 6] rfl)
set_option maxHeartbeats 4000000 in
set_option maxRecDepth 100000 in
theorem lk_copy {p : Program} {e : Env} {s : State} {m : MethodId} {below : List Frame} {meth : Method} {c : Code} {l : Launch} (hl9 : l.stackTraces = false) {b L : Nat} {xs : Nat → Int32} (hL : L ≤ 3072) (C0 : lw_At p s m meth c b L xs) {D : va_G} {cI cB cRc cRm cL : ClassId} {adC adM : Nat → Nat} {qo : Nat} (K : LK D cI cB cRc cRm cL adC adM qo s) {i : Nat} (hi : i + 6 ≤ L) {w : St} {u : Mt} {f : Nat → Int64} {A : Ab} (hCI : CI w A) (hMI : MI u A) {H : Heap} {locs : List Loc} {ls : Array Slot} {cs sl : Nat} (hcs : cs + 20 ≤ 601024) (hsl : sl + 200 ≤ 7293034) (hC : va_P D clA (NC cI cB cRc adC w) H) (hM : va_P D clA (NM cI cB cRm adM u) H) (hO : va_P D clA (OC cL qo f) H) (hS : va_S (AL s) s.heap H locs) (hl : lv_has ls 8 [(4, .int (nI (i))), (0, .ref (b)), (1, .ref (adC 0)), (2, .ref (adM 0)), (3, .ref (qo))])
    (kk : ∀ (w : St) (u : Mt) (f : Nat → Int64) (A : Ab) (H : Heap) (locs : List Loc) (ls : Array Slot), CI w A → MI u A → va_P D clA (NC cI cB cRc adC w) H → va_P D clA (NM cI cB cRm adM u) H → va_P D clA (OC cL qo f) H → va_S (AL s) s.heap H locs → lv_has ls 8 [(4, .int (nI (i))), (0, .ref (b)), (1, .ref (adC 0)), (2, .ref (adM 0)), (3, .ref (qo))] → W p l e room_1 s m #[Value.ref b] below meth c H locs (cs + 2 + 2 + 0) (sl + 12 + 12 + 0) (lw_Z below #[Value.ref b] s) (F0 m 1387 ls [])) : W p l e room_1 s m #[Value.ref b] below meth c H locs (cs) (sl) (lw_Z below #[Value.ref b] s) (F0 m 224 ls []) := by
  obtain ⟨hx, hb, hr, hml, hown, htb, hX, hbl, hlocks, hgv⟩ := C0
  have hown : s.vm.findClass R_La = some m.cls := hown
  have hts : ∀ w ∈ q_La_set :: wA, w.before #[Value.ref b] s = true := fun w hw => htb w (wA_in (by rcases List.mem_cons.mp hw with z | z; rw [z]; exact kq_La_set; exact z))
  refine lv_aload_n hx hb d_law_224 rfl (lv_at hl 2 rfl) ?_
  refine lv_aload_n hx hb d_law_225 rfl (lv_at hl 1 rfl) ?_
  refine lv_iload hx hb d_law_226 (lv_at hl 0 rfl) ?_
  refine lv_iconst (v := nI (1)) hx hb d_law_228 (by decide) ?_
  refine nw_iadd (v := nI (i + 1)) hx hb d_law_229 (nI_add _ _) ?_
  refine lb_sc hx hb hX hbl hS (j := i + 1) (by omega) hL (v := xs (i + 1)) rfl d_law_230 ?_
  refine lv_aload_n hx hb d_law_231 rfl (lv_at hl 1 rfl) ?_
  refine lv_iload hx hb d_law_232 (lv_at hl 0 rfl) ?_
  refine lv_iconst (v := nI (2)) hx hb d_law_234 (by decide) ?_
  refine nw_iadd (v := nI (i + 2)) hx hb d_law_235 (nI_add _ _) ?_
  refine lb_sc hx hb hX hbl hS (j := i + 2) (by omega) hL (v := xs (i + 2)) rfl d_law_236 ?_
  refine lv_aload_n hx hb d_law_237 rfl (lv_at hl 4 rfl) ?_
  obtain ⟨R9, hR9⟩ : ∃ R9, R9 = sp_copy (xs (i + 1)) (xs (i + 2)) A := ⟨_, rfl⟩
  have h2 : R9.1 ≤ 2 := by rw [hR9]; exact le2_copy (xs (i + 1)) (xs (i + 2)) A
  refine lb_H (own := R_La) (As := [.ref (adC 0), .int (xs (i + 1)), .int (xs (i + 2)), .ref (qo)]) (rest := []) (n := 4) ⟨hx, hb, hml, hown, hts⟩ K (c_La_copy l w f _ hl9 (xs (i + 1)) (xs (i + 2)) A hCI) (vx_cwSW 4 hts (gSo lm_La_93 st_La_copy in_La kq_La_copy) rfl rfl rfl (by decide +kernel) ⟨Nat.le_of_ble_eq_true rfl, Nat.le_of_ble_eq_true rfl⟩) hC hM hO hS rfl hl.1 rfl (Nat.le_of_ble_eq_true rfl) d_law_238 ⟨by show cs + 2 ≤ 601024; omega, by show sl + 12 ≤ 7293034; omega⟩ (fun r w1 f1 H locs hp hC hM hO hS => ?_)
  rw [← hR9] at hp
  obtain ⟨hCI1, hr1, ha1⟩ := hp
  subst hr1
  refine lv_istore (lv' := [(5, .int (nI (R9.1))), (4, .int (nI (i))), (0, .ref (b)), (1, .ref (adC 0)), (2, .ref (adM 0)), (3, .ref (qo))]) hx hb d_law_241 hl (by decide) rfl (fun ls hl => ?_)
  refine lv_aload_n hx hb d_law_243 rfl (lv_at hl 4 rfl) ?_
  refine lv_aload_n hx hb d_law_244 rfl (lv_at hl 2 rfl) ?_
  refine lv_iload hx hb d_law_245 (lv_at hl 1 rfl) ?_
  refine lv_iconst (v := nI (1)) hx hb d_law_247 (by decide) ?_
  refine nw_iadd (v := nI (i + 1)) hx hb d_law_248 (nI_add _ _) ?_
  refine lb_sc hx hb hX hbl hS (j := i + 1) (by omega) hL (v := xs (i + 1)) rfl d_law_249 ?_
  refine lv_aload_n hx hb d_law_250 rfl (lv_at hl 2 rfl) ?_
  refine lv_iload hx hb d_law_251 (lv_at hl 1 rfl) ?_
  refine lv_iconst (v := nI (2)) hx hb d_law_253 (by decide) ?_
  refine nw_iadd (v := nI (i + 2)) hx hb d_law_254 (nI_add _ _) ?_
  refine lb_sc hx hb hX hbl hS (j := i + 2) (by omega) hL (v := xs (i + 2)) rfl d_law_255 ?_
  refine lb_Mi (own := R_La) (C := R_Mo) (As := [.int (xs (i + 1)), .int (xs (i + 2))]) (rest := []) (n := 2) ⟨hx, hb, hml, hown, hts⟩ K (c_Mo_copy l u _ hl9 (xs (i + 1)) (xs (i + 2)) A hMI) (vx_cwVW 2 hts (gV lm_La_96 im_Mo_copy se_Mo_copy in_Mo kq_Mo_copy) rfl rfl rfl (by decide +kernel) ⟨Nat.le_of_ble_eq_true rfl, Nat.le_of_ble_eq_true rfl⟩) (recMo K.kM hM) hC hM hO hS rfl hl.1 rfl (Nat.le_of_ble_eq_true rfl) d_law_256 ⟨by show cs + 2 + 2 ≤ 601024; omega, by show sl + 12 + 12 ≤ 7293034; omega⟩ (fun r2 u1 H locs hp hC hM hO hS => ?_)
  rw [← hR9] at hp
  obtain ⟨hMI1, hX1, hb1⟩ := hp
  refine lv_istore (lv' := [(6, .int (r2)), (5, .int (nI (R9.1))), (4, .int (nI (i))), (0, .ref (b)), (1, .ref (adC 0)), (2, .ref (adM 0)), (3, .ref (qo))]) hx hb d_law_259 hl (by decide) rfl (fun ls hl => ?_)
  refine lv_aload_n hx hb d_law_261 rfl (lv_at hl 5 rfl) ?_
  refine lb_T (own := R_La) (C := R_Mo) (As := []) (rest := []) (n := 0) ⟨hx, hb, hml, hown, hts⟩ K (c_Mo_thrown l u1 _) (cwV0 0 hts lm_La_89 im_Mo_thrown se_Mo_thrown in_Mo kq_Mo_thrown rfl rfl rfl (by decide +kernel) ⟨Nat.le_of_ble_eq_true rfl, Nat.le_of_ble_eq_true rfl⟩) (recMo K.kM hM) hC hM hO hS rfl hl.1 rfl (Nat.le_of_ble_eq_true rfl) d_law_262 ⟨by show cs + 2 + 2 + 0 ≤ 601024; omega, by show sl + 12 + 12 + 0 ≤ 7293034; omega⟩ (fun r3 u2 H locs hp hC hM hO hS => ?_)
  obtain ⟨hr3, hu2⟩ := hp
  rw [hX1] at hr3
  subst hr3
  rw [hu2] at hM
  refine lv_iload hx hb d_law_265 (lv_at hl 1 rfl) ?_
  refine lv_icmp_eq (tgt := 272) hx hb d_law_267 (by decide) (fun _ => ?_) (fun z => absurd rfl z)
  refine lv_iload hx hb d_law_272 (lv_at hl 1 rfl) ?_
  by_cases h0 : R9.1 = 0
  · refine lv_if_ne (tgt := 289) hx hb d_law_274 (by decide) (fun z => absurd (by rw [h0]; exact nI_0) z) (fun _ => ?_)
    have hr2 := hb1 h0
    subst hr2
    refine lv_aload_n hx hb d_law_277 rfl (lv_at hl 6 rfl) ?_
    refine lv_iconst (v := nI (0)) hx hb d_law_278 (by decide) ?_
    refine lb_ld hx hb K hO (v := (R9.2.1).toInt64) (ha1 h0) d_law_279 ?_
    refine lv_iload hx hb d_law_280 (lv_at hl 0 rfl) ?_
    refine lv_i2l (v := R9.2.1.toInt64) hx hb d_law_282 rfl ?_
    refine W.lcmp hx hb d_law_283 ?_
    refine lv_if_eq (tgt := 289) hx hb d_law_284 (by decide) (fun _ => ?_) (fun z => absurd ((lg_cmp_eq _ _).mpr rfl) z)
    refine lv_goto (tgt := 1387) hx hb d_law_289 (by decide) ?_
    exact kk w1 u1 f1 R9.2.2 H locs ls hCI1 hMI1 hC hM hO hS (lv_sub hl [2, 3, 4, 5, 6] rfl)
  · refine lv_if_ne (tgt := 289) hx hb d_law_274 (by decide) (fun _ => ?_) (fun z => absurd ((nI_eq (by omega) (by omega)).mp (by rw [nI_0]; exact z)) h0)
    refine lv_goto (tgt := 1387) hx hb d_law_289 (by decide) ?_
    exact kk w1 u1 f1 R9.2.2 H locs ls hCI1 hMI1 hC hM hO hS (lv_sub hl [2, 3, 4, 5, 6] rfl)
set_option maxHeartbeats 4000000 in
set_option maxRecDepth 100000 in
theorem lk_shift {p : Program} {e : Env} {s : State} {m : MethodId} {below : List Frame} {meth : Method} {c : Code} {l : Launch} (hl9 : l.stackTraces = false) {b L : Nat} {xs : Nat → Int32} (hL : L ≤ 3072) (C0 : lw_At p s m meth c b L xs) {D : va_G} {cI cB cRc cRm cL : ClassId} {adC adM : Nat → Nat} {qo : Nat} (K : LK D cI cB cRc cRm cL adC adM qo s) {i : Nat} (hi : i + 6 ≤ L) {w : St} {u : Mt} {f : Nat → Int64} {A : Ab} (hCI : CI w A) (hMI : MI u A) {H : Heap} {locs : List Loc} {ls : Array Slot} {cs sl : Nat} (hcs : cs + 20 ≤ 601024) (hsl : sl + 200 ≤ 7293034) (hC : va_P D clA (NC cI cB cRc adC w) H) (hM : va_P D clA (NM cI cB cRm adM u) H) (hO : va_P D clA (OC cL qo f) H) (hS : va_S (AL s) s.heap H locs) (hl : lv_has ls 8 [(4, .int (nI (i))), (0, .ref (b)), (1, .ref (adC 0)), (2, .ref (adM 0)), (3, .ref (qo))])
    (kk : ∀ (w : St) (u : Mt) (f : Nat → Int64) (A : Ab) (H : Heap) (locs : List Loc) (ls : Array Slot), CI w A → MI u A → va_P D clA (NC cI cB cRc adC w) H → va_P D clA (NM cI cB cRm adM u) H → va_P D clA (OC cL qo f) H → va_S (AL s) s.heap H locs → lv_has ls 8 [(4, .int (nI (i))), (0, .ref (b)), (1, .ref (adC 0)), (2, .ref (adM 0)), (3, .ref (qo))] → W p l e room_1 s m #[Value.ref b] below meth c H locs (cs + 4 + 4 + 0) (sl + 24 + 24 + 0) (lw_Z below #[Value.ref b] s) (F0 m 1387 ls [])) : W p l e room_1 s m #[Value.ref b] below meth c H locs (cs) (sl) (lw_Z below #[Value.ref b] s) (F0 m 292 ls []) := by
  obtain ⟨hx, hb, hr, hml, hown, htb, hX, hbl, hlocks, hgv⟩ := C0
  have hown : s.vm.findClass R_La = some m.cls := hown
  have hts : ∀ w ∈ q_La_set :: wA, w.before #[Value.ref b] s = true := fun w hw => htb w (wA_in (by rcases List.mem_cons.mp hw with z | z; rw [z]; exact kq_La_set; exact z))
  refine lv_aload_n hx hb d_law_292 rfl (lv_at hl 2 rfl) ?_
  refine lv_aload_n hx hb d_law_293 rfl (lv_at hl 1 rfl) ?_
  refine lv_iload hx hb d_law_294 (lv_at hl 0 rfl) ?_
  refine lv_iconst (v := nI (1)) hx hb d_law_296 (by decide) ?_
  refine nw_iadd (v := nI (i + 1)) hx hb d_law_297 (nI_add _ _) ?_
  refine lb_sc hx hb hX hbl hS (j := i + 1) (by omega) hL (v := xs (i + 1)) rfl d_law_298 ?_
  refine lv_aload_n hx hb d_law_299 rfl (lv_at hl 1 rfl) ?_
  refine lv_iload hx hb d_law_300 (lv_at hl 0 rfl) ?_
  refine lv_iconst (v := nI (2)) hx hb d_law_302 (by decide) ?_
  refine nw_iadd (v := nI (i + 2)) hx hb d_law_303 (nI_add _ _) ?_
  refine lb_sc hx hb hX hbl hS (j := i + 2) (by omega) hL (v := xs (i + 2)) rfl d_law_304 ?_
  refine lv_aload_n hx hb d_law_305 rfl (lv_at hl 1 rfl) ?_
  refine lv_iload hx hb d_law_306 (lv_at hl 0 rfl) ?_
  refine lv_iconst (v := nI (3)) hx hb d_law_308 (by decide) ?_
  refine nw_iadd (v := nI (i + 3)) hx hb d_law_309 (nI_add _ _) ?_
  refine lb_sc hx hb hX hbl hS (j := i + 3) (by omega) hL (v := xs (i + 3)) rfl d_law_310 ?_
  refine lv_aload_n hx hb d_law_311 rfl (lv_at hl 4 rfl) ?_
  obtain ⟨R9, hR9⟩ : ∃ R9, R9 = sp_shift (xs (i + 1)) (xs (i + 2)) (xs (i + 3)) A := ⟨_, rfl⟩
  have h2 : R9.1 ≤ 2 := by rw [hR9]; exact le2_shift (xs (i + 1)) (xs (i + 2)) (xs (i + 3)) A
  refine lb_H (own := R_La) (As := [.ref (adC 0), .int (xs (i + 1)), .int (xs (i + 2)), .int (xs (i + 3)), .ref (qo)]) (rest := []) (n := 5) ⟨hx, hb, hml, hown, hts⟩ K (c_La_shift l w f _ hl9 (xs (i + 1)) (xs (i + 2)) (xs (i + 3)) A hCI) (vx_cwSW 5 hts (gSo lm_La_97 st_La_shift in_La kq_La_shift) rfl rfl rfl (by decide +kernel) ⟨Nat.le_of_ble_eq_true rfl, Nat.le_of_ble_eq_true rfl⟩) hC hM hO hS rfl hl.1 rfl (Nat.le_of_ble_eq_true rfl) d_law_312 ⟨by show cs + 4 ≤ 601024; omega, by show sl + 24 ≤ 7293034; omega⟩ (fun r w1 f1 H locs hp hC hM hO hS => ?_)
  rw [← hR9] at hp
  obtain ⟨hCI1, hr1, ha1⟩ := hp
  subst hr1
  refine lv_istore (lv' := [(5, .int (nI (R9.1))), (4, .int (nI (i))), (0, .ref (b)), (1, .ref (adC 0)), (2, .ref (adM 0)), (3, .ref (qo))]) hx hb d_law_315 hl (by decide) rfl (fun ls hl => ?_)
  refine lv_aload_n hx hb d_law_317 rfl (lv_at hl 4 rfl) ?_
  refine lv_aload_n hx hb d_law_318 rfl (lv_at hl 2 rfl) ?_
  refine lv_iload hx hb d_law_319 (lv_at hl 1 rfl) ?_
  refine lv_iconst (v := nI (1)) hx hb d_law_321 (by decide) ?_
  refine nw_iadd (v := nI (i + 1)) hx hb d_law_322 (nI_add _ _) ?_
  refine lb_sc hx hb hX hbl hS (j := i + 1) (by omega) hL (v := xs (i + 1)) rfl d_law_323 ?_
  refine lv_aload_n hx hb d_law_324 rfl (lv_at hl 2 rfl) ?_
  refine lv_iload hx hb d_law_325 (lv_at hl 1 rfl) ?_
  refine lv_iconst (v := nI (2)) hx hb d_law_327 (by decide) ?_
  refine nw_iadd (v := nI (i + 2)) hx hb d_law_328 (nI_add _ _) ?_
  refine lb_sc hx hb hX hbl hS (j := i + 2) (by omega) hL (v := xs (i + 2)) rfl d_law_329 ?_
  refine lv_aload_n hx hb d_law_330 rfl (lv_at hl 2 rfl) ?_
  refine lv_iload hx hb d_law_331 (lv_at hl 1 rfl) ?_
  refine lv_iconst (v := nI (3)) hx hb d_law_333 (by decide) ?_
  refine nw_iadd (v := nI (i + 3)) hx hb d_law_334 (nI_add _ _) ?_
  refine lb_sc hx hb hX hbl hS (j := i + 3) (by omega) hL (v := xs (i + 3)) rfl d_law_335 ?_
  refine lb_Mi (own := R_La) (C := R_Mo) (As := [.int (xs (i + 1)), .int (xs (i + 2)), .int (xs (i + 3))]) (rest := []) (n := 3) ⟨hx, hb, hml, hown, hts⟩ K (c_Mo_shift l u _ hl9 (xs (i + 1)) (xs (i + 2)) (xs (i + 3)) A hMI) (vx_cwVW 3 hts (gV lm_La_100 im_Mo_shift se_Mo_shift in_Mo kq_Mo_shift) rfl rfl rfl (by decide +kernel) ⟨Nat.le_of_ble_eq_true rfl, Nat.le_of_ble_eq_true rfl⟩) (recMo K.kM hM) hC hM hO hS rfl hl.1 rfl (Nat.le_of_ble_eq_true rfl) d_law_336 ⟨by show cs + 4 + 4 ≤ 601024; omega, by show sl + 24 + 24 ≤ 7293034; omega⟩ (fun r2 u1 H locs hp hC hM hO hS => ?_)
  rw [← hR9] at hp
  obtain ⟨hMI1, hX1, hb1⟩ := hp
  refine lv_istore (lv' := [(6, .int (r2)), (5, .int (nI (R9.1))), (4, .int (nI (i))), (0, .ref (b)), (1, .ref (adC 0)), (2, .ref (adM 0)), (3, .ref (qo))]) hx hb d_law_339 hl (by decide) rfl (fun ls hl => ?_)
  refine lv_aload_n hx hb d_law_341 rfl (lv_at hl 5 rfl) ?_
  refine lb_T (own := R_La) (C := R_Mo) (As := []) (rest := []) (n := 0) ⟨hx, hb, hml, hown, hts⟩ K (c_Mo_thrown l u1 _) (cwV0 0 hts lm_La_89 im_Mo_thrown se_Mo_thrown in_Mo kq_Mo_thrown rfl rfl rfl (by decide +kernel) ⟨Nat.le_of_ble_eq_true rfl, Nat.le_of_ble_eq_true rfl⟩) (recMo K.kM hM) hC hM hO hS rfl hl.1 rfl (Nat.le_of_ble_eq_true rfl) d_law_342 ⟨by show cs + 4 + 4 + 0 ≤ 601024; omega, by show sl + 24 + 24 + 0 ≤ 7293034; omega⟩ (fun r3 u2 H locs hp hC hM hO hS => ?_)
  obtain ⟨hr3, hu2⟩ := hp
  rw [hX1] at hr3
  subst hr3
  rw [hu2] at hM
  refine lv_iload hx hb d_law_345 (lv_at hl 1 rfl) ?_
  refine lv_icmp_eq (tgt := 352) hx hb d_law_347 (by decide) (fun _ => ?_) (fun z => absurd rfl z)
  refine lv_iload hx hb d_law_352 (lv_at hl 1 rfl) ?_
  by_cases h0 : R9.1 = 0
  · refine lv_if_ne (tgt := 369) hx hb d_law_354 (by decide) (fun z => absurd (by rw [h0]; exact nI_0) z) (fun _ => ?_)
    have hr2 := hb1 h0
    subst hr2
    refine lv_aload_n hx hb d_law_357 rfl (lv_at hl 6 rfl) ?_
    refine lv_iconst (v := nI (0)) hx hb d_law_358 (by decide) ?_
    refine lb_ld hx hb K hO (v := (R9.2.1).toInt64) (ha1 h0) d_law_359 ?_
    refine lv_iload hx hb d_law_360 (lv_at hl 0 rfl) ?_
    refine lv_i2l (v := R9.2.1.toInt64) hx hb d_law_362 rfl ?_
    refine W.lcmp hx hb d_law_363 ?_
    refine lv_if_eq (tgt := 369) hx hb d_law_364 (by decide) (fun _ => ?_) (fun z => absurd ((lg_cmp_eq _ _).mpr rfl) z)
    refine lv_goto (tgt := 1387) hx hb d_law_369 (by decide) ?_
    exact kk w1 u1 f1 R9.2.2 H locs ls hCI1 hMI1 hC hM hO hS (lv_sub hl [2, 3, 4, 5, 6] rfl)
  · refine lv_if_ne (tgt := 369) hx hb d_law_354 (by decide) (fun _ => ?_) (fun z => absurd ((nI_eq (by omega) (by omega)).mp (by rw [nI_0]; exact z)) h0)
    refine lv_goto (tgt := 1387) hx hb d_law_369 (by decide) ?_
    exact kk w1 u1 f1 R9.2.2 H locs ls hCI1 hMI1 hC hM hO hS (lv_sub hl [2, 3, 4, 5, 6] rfl)
set_option maxHeartbeats 4000000 in
set_option maxRecDepth 100000 in
theorem lk_add {p : Program} {e : Env} {s : State} {m : MethodId} {below : List Frame} {meth : Method} {c : Code} {l : Launch} (hl9 : l.stackTraces = false) {b L : Nat} {xs : Nat → Int32} (hL : L ≤ 3072) (C0 : lw_At p s m meth c b L xs) {D : va_G} {cI cB cRc cRm cL : ClassId} {adC adM : Nat → Nat} {qo : Nat} (K : LK D cI cB cRc cRm cL adC adM qo s) {i : Nat} (hi : i + 6 ≤ L) {w : St} {u : Mt} {f : Nat → Int64} {A : Ab} (hCI : CI w A) (hMI : MI u A) {H : Heap} {locs : List Loc} {ls : Array Slot} {cs sl : Nat} (hcs : cs + 20 ≤ 601024) (hsl : sl + 200 ≤ 7293034) (hC : va_P D clA (NC cI cB cRc adC w) H) (hM : va_P D clA (NM cI cB cRm adM u) H) (hO : va_P D clA (OC cL qo f) H) (hS : va_S (AL s) s.heap H locs) (hl : lv_has ls 8 [(4, .int (nI (i))), (0, .ref (b)), (1, .ref (adC 0)), (2, .ref (adM 0)), (3, .ref (qo))])
    (kk : ∀ (w : St) (u : Mt) (f : Nat → Int64) (A : Ab) (H : Heap) (locs : List Loc) (ls : Array Slot), CI w A → MI u A → va_P D clA (NC cI cB cRc adC w) H → va_P D clA (NM cI cB cRm adM u) H → va_P D clA (OC cL qo f) H → va_S (AL s) s.heap H locs → lv_has ls 8 [(4, .int (nI (i))), (0, .ref (b)), (1, .ref (adC 0)), (2, .ref (adM 0)), (3, .ref (qo))] → W p l e room_1 s m #[Value.ref b] below meth c H locs (cs + 4 + 4 + 0) (sl + 24 + 24 + 0) (lw_Z below #[Value.ref b] s) (F0 m 1387 ls [])) : W p l e room_1 s m #[Value.ref b] below meth c H locs (cs) (sl) (lw_Z below #[Value.ref b] s) (F0 m 372 ls []) := by
  obtain ⟨hx, hb, hr, hml, hown, htb, hX, hbl, hlocks, hgv⟩ := C0
  have hown : s.vm.findClass R_La = some m.cls := hown
  have hts : ∀ w ∈ q_La_set :: wA, w.before #[Value.ref b] s = true := fun w hw => htb w (wA_in (by rcases List.mem_cons.mp hw with z | z; rw [z]; exact kq_La_set; exact z))
  refine lv_aload_n hx hb d_law_372 rfl (lv_at hl 2 rfl) ?_
  refine lv_aload_n hx hb d_law_373 rfl (lv_at hl 1 rfl) ?_
  refine lv_iload hx hb d_law_374 (lv_at hl 0 rfl) ?_
  refine lv_iconst (v := nI (1)) hx hb d_law_376 (by decide) ?_
  refine nw_iadd (v := nI (i + 1)) hx hb d_law_377 (nI_add _ _) ?_
  refine lb_sc hx hb hX hbl hS (j := i + 1) (by omega) hL (v := xs (i + 1)) rfl d_law_378 ?_
  refine lv_aload_n hx hb d_law_379 rfl (lv_at hl 1 rfl) ?_
  refine lv_iload hx hb d_law_380 (lv_at hl 0 rfl) ?_
  refine lv_iconst (v := nI (2)) hx hb d_law_382 (by decide) ?_
  refine nw_iadd (v := nI (i + 2)) hx hb d_law_383 (nI_add _ _) ?_
  refine lb_sc hx hb hX hbl hS (j := i + 2) (by omega) hL (v := xs (i + 2)) rfl d_law_384 ?_
  refine lv_aload_n hx hb d_law_385 rfl (lv_at hl 1 rfl) ?_
  refine lv_iload hx hb d_law_386 (lv_at hl 0 rfl) ?_
  refine lv_iconst (v := nI (3)) hx hb d_law_388 (by decide) ?_
  refine nw_iadd (v := nI (i + 3)) hx hb d_law_389 (nI_add _ _) ?_
  refine lb_sc hx hb hX hbl hS (j := i + 3) (by omega) hL (v := xs (i + 3)) rfl d_law_390 ?_
  refine lv_aload_n hx hb d_law_391 rfl (lv_at hl 4 rfl) ?_
  obtain ⟨R9, hR9⟩ : ∃ R9, R9 = sp_add (xs (i + 1)) (xs (i + 2)) (xs (i + 3)) A := ⟨_, rfl⟩
  have h2 : R9.1 ≤ 2 := by rw [hR9]; exact le2_add (xs (i + 1)) (xs (i + 2)) (xs (i + 3)) A
  refine lb_H (own := R_La) (As := [.ref (adC 0), .int (xs (i + 1)), .int (xs (i + 2)), .int (xs (i + 3)), .ref (qo)]) (rest := []) (n := 5) ⟨hx, hb, hml, hown, hts⟩ K (c_La_add l w f _ hl9 (xs (i + 1)) (xs (i + 2)) (xs (i + 3)) A hCI) (vx_cwSW 5 hts (gSo lm_La_101 st_La_add in_La kq_La_add) rfl rfl rfl (by decide +kernel) ⟨Nat.le_of_ble_eq_true rfl, Nat.le_of_ble_eq_true rfl⟩) hC hM hO hS rfl hl.1 rfl (Nat.le_of_ble_eq_true rfl) d_law_392 ⟨by show cs + 4 ≤ 601024; omega, by show sl + 24 ≤ 7293034; omega⟩ (fun r w1 f1 H locs hp hC hM hO hS => ?_)
  rw [← hR9] at hp
  obtain ⟨hCI1, hr1, ha1⟩ := hp
  subst hr1
  refine lv_istore (lv' := [(5, .int (nI (R9.1))), (4, .int (nI (i))), (0, .ref (b)), (1, .ref (adC 0)), (2, .ref (adM 0)), (3, .ref (qo))]) hx hb d_law_395 hl (by decide) rfl (fun ls hl => ?_)
  refine lv_aload_n hx hb d_law_397 rfl (lv_at hl 4 rfl) ?_
  refine lv_aload_n hx hb d_law_398 rfl (lv_at hl 2 rfl) ?_
  refine lv_iload hx hb d_law_399 (lv_at hl 1 rfl) ?_
  refine lv_iconst (v := nI (1)) hx hb d_law_401 (by decide) ?_
  refine nw_iadd (v := nI (i + 1)) hx hb d_law_402 (nI_add _ _) ?_
  refine lb_sc hx hb hX hbl hS (j := i + 1) (by omega) hL (v := xs (i + 1)) rfl d_law_403 ?_
  refine lv_aload_n hx hb d_law_404 rfl (lv_at hl 2 rfl) ?_
  refine lv_iload hx hb d_law_405 (lv_at hl 1 rfl) ?_
  refine lv_iconst (v := nI (2)) hx hb d_law_407 (by decide) ?_
  refine nw_iadd (v := nI (i + 2)) hx hb d_law_408 (nI_add _ _) ?_
  refine lb_sc hx hb hX hbl hS (j := i + 2) (by omega) hL (v := xs (i + 2)) rfl d_law_409 ?_
  refine lv_aload_n hx hb d_law_410 rfl (lv_at hl 2 rfl) ?_
  refine lv_iload hx hb d_law_411 (lv_at hl 1 rfl) ?_
  refine lv_iconst (v := nI (3)) hx hb d_law_413 (by decide) ?_
  refine nw_iadd (v := nI (i + 3)) hx hb d_law_414 (nI_add _ _) ?_
  refine lb_sc hx hb hX hbl hS (j := i + 3) (by omega) hL (v := xs (i + 3)) rfl d_law_415 ?_
  refine lb_Mi (own := R_La) (C := R_Mo) (As := [.int (xs (i + 1)), .int (xs (i + 2)), .int (xs (i + 3))]) (rest := []) (n := 3) ⟨hx, hb, hml, hown, hts⟩ K (c_Mo_add l u _ hl9 (xs (i + 1)) (xs (i + 2)) (xs (i + 3)) A hMI) (vx_cwVW 3 hts (gV lm_La_103 im_Mo_add se_Mo_add in_Mo kq_Mo_add) rfl rfl rfl (by decide +kernel) ⟨Nat.le_of_ble_eq_true rfl, Nat.le_of_ble_eq_true rfl⟩) (recMo K.kM hM) hC hM hO hS rfl hl.1 rfl (Nat.le_of_ble_eq_true rfl) d_law_416 ⟨by show cs + 4 + 4 ≤ 601024; omega, by show sl + 24 + 24 ≤ 7293034; omega⟩ (fun r2 u1 H locs hp hC hM hO hS => ?_)
  rw [← hR9] at hp
  obtain ⟨hMI1, hX1, hb1⟩ := hp
  refine lv_istore (lv' := [(6, .int (r2)), (5, .int (nI (R9.1))), (4, .int (nI (i))), (0, .ref (b)), (1, .ref (adC 0)), (2, .ref (adM 0)), (3, .ref (qo))]) hx hb d_law_419 hl (by decide) rfl (fun ls hl => ?_)
  refine lv_aload_n hx hb d_law_421 rfl (lv_at hl 5 rfl) ?_
  refine lb_T (own := R_La) (C := R_Mo) (As := []) (rest := []) (n := 0) ⟨hx, hb, hml, hown, hts⟩ K (c_Mo_thrown l u1 _) (cwV0 0 hts lm_La_89 im_Mo_thrown se_Mo_thrown in_Mo kq_Mo_thrown rfl rfl rfl (by decide +kernel) ⟨Nat.le_of_ble_eq_true rfl, Nat.le_of_ble_eq_true rfl⟩) (recMo K.kM hM) hC hM hO hS rfl hl.1 rfl (Nat.le_of_ble_eq_true rfl) d_law_422 ⟨by show cs + 4 + 4 + 0 ≤ 601024; omega, by show sl + 24 + 24 + 0 ≤ 7293034; omega⟩ (fun r3 u2 H locs hp hC hM hO hS => ?_)
  obtain ⟨hr3, hu2⟩ := hp
  rw [hX1] at hr3
  subst hr3
  rw [hu2] at hM
  refine lv_iload hx hb d_law_425 (lv_at hl 1 rfl) ?_
  refine lv_icmp_eq (tgt := 432) hx hb d_law_427 (by decide) (fun _ => ?_) (fun z => absurd rfl z)
  refine lv_iload hx hb d_law_432 (lv_at hl 1 rfl) ?_
  by_cases h0 : R9.1 = 0
  · refine lv_if_ne (tgt := 449) hx hb d_law_434 (by decide) (fun z => absurd (by rw [h0]; exact nI_0) z) (fun _ => ?_)
    have hr2 := hb1 h0
    subst hr2
    refine lv_aload_n hx hb d_law_437 rfl (lv_at hl 6 rfl) ?_
    refine lv_iconst (v := nI (0)) hx hb d_law_438 (by decide) ?_
    refine lb_ld hx hb K hO (v := (R9.2.1).toInt64) (ha1 h0) d_law_439 ?_
    refine lv_iload hx hb d_law_440 (lv_at hl 0 rfl) ?_
    refine lv_i2l (v := R9.2.1.toInt64) hx hb d_law_442 rfl ?_
    refine W.lcmp hx hb d_law_443 ?_
    refine lv_if_eq (tgt := 449) hx hb d_law_444 (by decide) (fun _ => ?_) (fun z => absurd ((lg_cmp_eq _ _).mpr rfl) z)
    refine lv_goto (tgt := 1387) hx hb d_law_449 (by decide) ?_
    exact kk w1 u1 f1 R9.2.2 H locs ls hCI1 hMI1 hC hM hO hS (lv_sub hl [2, 3, 4, 5, 6] rfl)
  · refine lv_if_ne (tgt := 449) hx hb d_law_434 (by decide) (fun _ => ?_) (fun z => absurd ((nI_eq (by omega) (by omega)).mp (by rw [nI_0]; exact z)) h0)
    refine lv_goto (tgt := 1387) hx hb d_law_449 (by decide) ?_
    exact kk w1 u1 f1 R9.2.2 H locs ls hCI1 hMI1 hC hM hO hS (lv_sub hl [2, 3, 4, 5, 6] rfl)
set_option maxHeartbeats 4000000 in
set_option maxRecDepth 100000 in
theorem lk_subtract {p : Program} {e : Env} {s : State} {m : MethodId} {below : List Frame} {meth : Method} {c : Code} {l : Launch} (hl9 : l.stackTraces = false) {b L : Nat} {xs : Nat → Int32} (hL : L ≤ 3072) (C0 : lw_At p s m meth c b L xs) {D : va_G} {cI cB cRc cRm cL : ClassId} {adC adM : Nat → Nat} {qo : Nat} (K : LK D cI cB cRc cRm cL adC adM qo s) {i : Nat} (hi : i + 6 ≤ L) {w : St} {u : Mt} {f : Nat → Int64} {A : Ab} (hCI : CI w A) (hMI : MI u A) {H : Heap} {locs : List Loc} {ls : Array Slot} {cs sl : Nat} (hcs : cs + 20 ≤ 601024) (hsl : sl + 200 ≤ 7293034) (hC : va_P D clA (NC cI cB cRc adC w) H) (hM : va_P D clA (NM cI cB cRm adM u) H) (hO : va_P D clA (OC cL qo f) H) (hS : va_S (AL s) s.heap H locs) (hl : lv_has ls 8 [(4, .int (nI (i))), (0, .ref (b)), (1, .ref (adC 0)), (2, .ref (adM 0)), (3, .ref (qo))])
    (kk : ∀ (w : St) (u : Mt) (f : Nat → Int64) (A : Ab) (H : Heap) (locs : List Loc) (ls : Array Slot), CI w A → MI u A → va_P D clA (NC cI cB cRc adC w) H → va_P D clA (NM cI cB cRm adM u) H → va_P D clA (OC cL qo f) H → va_S (AL s) s.heap H locs → lv_has ls 8 [(4, .int (nI (i))), (0, .ref (b)), (1, .ref (adC 0)), (2, .ref (adM 0)), (3, .ref (qo))] → W p l e room_1 s m #[Value.ref b] below meth c H locs (cs + 4 + 4 + 0) (sl + 24 + 24 + 0) (lw_Z below #[Value.ref b] s) (F0 m 1387 ls [])) : W p l e room_1 s m #[Value.ref b] below meth c H locs (cs) (sl) (lw_Z below #[Value.ref b] s) (F0 m 452 ls []) := by
  obtain ⟨hx, hb, hr, hml, hown, htb, hX, hbl, hlocks, hgv⟩ := C0
  have hown : s.vm.findClass R_La = some m.cls := hown
  have hts : ∀ w ∈ q_La_set :: wA, w.before #[Value.ref b] s = true := fun w hw => htb w (wA_in (by rcases List.mem_cons.mp hw with z | z; rw [z]; exact kq_La_set; exact z))
  refine lv_aload_n hx hb d_law_452 rfl (lv_at hl 2 rfl) ?_
  refine lv_aload_n hx hb d_law_453 rfl (lv_at hl 1 rfl) ?_
  refine lv_iload hx hb d_law_454 (lv_at hl 0 rfl) ?_
  refine lv_iconst (v := nI (1)) hx hb d_law_456 (by decide) ?_
  refine nw_iadd (v := nI (i + 1)) hx hb d_law_457 (nI_add _ _) ?_
  refine lb_sc hx hb hX hbl hS (j := i + 1) (by omega) hL (v := xs (i + 1)) rfl d_law_458 ?_
  refine lv_aload_n hx hb d_law_459 rfl (lv_at hl 1 rfl) ?_
  refine lv_iload hx hb d_law_460 (lv_at hl 0 rfl) ?_
  refine lv_iconst (v := nI (2)) hx hb d_law_462 (by decide) ?_
  refine nw_iadd (v := nI (i + 2)) hx hb d_law_463 (nI_add _ _) ?_
  refine lb_sc hx hb hX hbl hS (j := i + 2) (by omega) hL (v := xs (i + 2)) rfl d_law_464 ?_
  refine lv_aload_n hx hb d_law_465 rfl (lv_at hl 1 rfl) ?_
  refine lv_iload hx hb d_law_466 (lv_at hl 0 rfl) ?_
  refine lv_iconst (v := nI (3)) hx hb d_law_468 (by decide) ?_
  refine nw_iadd (v := nI (i + 3)) hx hb d_law_469 (nI_add _ _) ?_
  refine lb_sc hx hb hX hbl hS (j := i + 3) (by omega) hL (v := xs (i + 3)) rfl d_law_470 ?_
  refine lv_aload_n hx hb d_law_471 rfl (lv_at hl 4 rfl) ?_
  obtain ⟨R9, hR9⟩ : ∃ R9, R9 = sp_subtract (xs (i + 1)) (xs (i + 2)) (xs (i + 3)) A := ⟨_, rfl⟩
  have h2 : R9.1 ≤ 2 := by rw [hR9]; exact le2_subtract (xs (i + 1)) (xs (i + 2)) (xs (i + 3)) A
  refine lb_H (own := R_La) (As := [.ref (adC 0), .int (xs (i + 1)), .int (xs (i + 2)), .int (xs (i + 3)), .ref (qo)]) (rest := []) (n := 5) ⟨hx, hb, hml, hown, hts⟩ K (c_La_subtract l w f _ hl9 (xs (i + 1)) (xs (i + 2)) (xs (i + 3)) A hCI) (vx_cwSW 5 hts (gSo lm_La_104 st_La_subtract in_La kq_La_subtract) rfl rfl rfl (by decide +kernel) ⟨Nat.le_of_ble_eq_true rfl, Nat.le_of_ble_eq_true rfl⟩) hC hM hO hS rfl hl.1 rfl (Nat.le_of_ble_eq_true rfl) d_law_472 ⟨by show cs + 4 ≤ 601024; omega, by show sl + 24 ≤ 7293034; omega⟩ (fun r w1 f1 H locs hp hC hM hO hS => ?_)
  rw [← hR9] at hp
  obtain ⟨hCI1, hr1, ha1⟩ := hp
  subst hr1
  refine lv_istore (lv' := [(5, .int (nI (R9.1))), (4, .int (nI (i))), (0, .ref (b)), (1, .ref (adC 0)), (2, .ref (adM 0)), (3, .ref (qo))]) hx hb d_law_475 hl (by decide) rfl (fun ls hl => ?_)
  refine lv_aload_n hx hb d_law_477 rfl (lv_at hl 4 rfl) ?_
  refine lv_aload_n hx hb d_law_478 rfl (lv_at hl 2 rfl) ?_
  refine lv_iload hx hb d_law_479 (lv_at hl 1 rfl) ?_
  refine lv_iconst (v := nI (1)) hx hb d_law_481 (by decide) ?_
  refine nw_iadd (v := nI (i + 1)) hx hb d_law_482 (nI_add _ _) ?_
  refine lb_sc hx hb hX hbl hS (j := i + 1) (by omega) hL (v := xs (i + 1)) rfl d_law_483 ?_
  refine lv_aload_n hx hb d_law_484 rfl (lv_at hl 2 rfl) ?_
  refine lv_iload hx hb d_law_485 (lv_at hl 1 rfl) ?_
  refine lv_iconst (v := nI (2)) hx hb d_law_487 (by decide) ?_
  refine nw_iadd (v := nI (i + 2)) hx hb d_law_488 (nI_add _ _) ?_
  refine lb_sc hx hb hX hbl hS (j := i + 2) (by omega) hL (v := xs (i + 2)) rfl d_law_489 ?_
  refine lv_aload_n hx hb d_law_490 rfl (lv_at hl 2 rfl) ?_
  refine lv_iload hx hb d_law_491 (lv_at hl 1 rfl) ?_
  refine lv_iconst (v := nI (3)) hx hb d_law_493 (by decide) ?_
  refine nw_iadd (v := nI (i + 3)) hx hb d_law_494 (nI_add _ _) ?_
  refine lb_sc hx hb hX hbl hS (j := i + 3) (by omega) hL (v := xs (i + 3)) rfl d_law_495 ?_
  refine lb_Mi (own := R_La) (C := R_Mo) (As := [.int (xs (i + 1)), .int (xs (i + 2)), .int (xs (i + 3))]) (rest := []) (n := 3) ⟨hx, hb, hml, hown, hts⟩ K (c_Mo_subtract l u _ hl9 (xs (i + 1)) (xs (i + 2)) (xs (i + 3)) A hMI) (vx_cwVW 3 hts (gV lm_La_106 im_Mo_subtract se_Mo_subtract in_Mo kq_Mo_subtract) rfl rfl rfl (by decide +kernel) ⟨Nat.le_of_ble_eq_true rfl, Nat.le_of_ble_eq_true rfl⟩) (recMo K.kM hM) hC hM hO hS rfl hl.1 rfl (Nat.le_of_ble_eq_true rfl) d_law_496 ⟨by show cs + 4 + 4 ≤ 601024; omega, by show sl + 24 + 24 ≤ 7293034; omega⟩ (fun r2 u1 H locs hp hC hM hO hS => ?_)
  rw [← hR9] at hp
  obtain ⟨hMI1, hX1, hb1⟩ := hp
  refine lv_istore (lv' := [(6, .int (r2)), (5, .int (nI (R9.1))), (4, .int (nI (i))), (0, .ref (b)), (1, .ref (adC 0)), (2, .ref (adM 0)), (3, .ref (qo))]) hx hb d_law_499 hl (by decide) rfl (fun ls hl => ?_)
  refine lv_aload_n hx hb d_law_501 rfl (lv_at hl 5 rfl) ?_
  refine lb_T (own := R_La) (C := R_Mo) (As := []) (rest := []) (n := 0) ⟨hx, hb, hml, hown, hts⟩ K (c_Mo_thrown l u1 _) (cwV0 0 hts lm_La_89 im_Mo_thrown se_Mo_thrown in_Mo kq_Mo_thrown rfl rfl rfl (by decide +kernel) ⟨Nat.le_of_ble_eq_true rfl, Nat.le_of_ble_eq_true rfl⟩) (recMo K.kM hM) hC hM hO hS rfl hl.1 rfl (Nat.le_of_ble_eq_true rfl) d_law_502 ⟨by show cs + 4 + 4 + 0 ≤ 601024; omega, by show sl + 24 + 24 + 0 ≤ 7293034; omega⟩ (fun r3 u2 H locs hp hC hM hO hS => ?_)
  obtain ⟨hr3, hu2⟩ := hp
  rw [hX1] at hr3
  subst hr3
  rw [hu2] at hM
  refine lv_iload hx hb d_law_505 (lv_at hl 1 rfl) ?_
  refine lv_icmp_eq (tgt := 512) hx hb d_law_507 (by decide) (fun _ => ?_) (fun z => absurd rfl z)
  refine lv_iload hx hb d_law_512 (lv_at hl 1 rfl) ?_
  by_cases h0 : R9.1 = 0
  · refine lv_if_ne (tgt := 529) hx hb d_law_514 (by decide) (fun z => absurd (by rw [h0]; exact nI_0) z) (fun _ => ?_)
    have hr2 := hb1 h0
    subst hr2
    refine lv_aload_n hx hb d_law_517 rfl (lv_at hl 6 rfl) ?_
    refine lv_iconst (v := nI (0)) hx hb d_law_518 (by decide) ?_
    refine lb_ld hx hb K hO (v := (R9.2.1).toInt64) (ha1 h0) d_law_519 ?_
    refine lv_iload hx hb d_law_520 (lv_at hl 0 rfl) ?_
    refine lv_i2l (v := R9.2.1.toInt64) hx hb d_law_522 rfl ?_
    refine W.lcmp hx hb d_law_523 ?_
    refine lv_if_eq (tgt := 529) hx hb d_law_524 (by decide) (fun _ => ?_) (fun z => absurd ((lg_cmp_eq _ _).mpr rfl) z)
    refine lv_goto (tgt := 1387) hx hb d_law_529 (by decide) ?_
    exact kk w1 u1 f1 R9.2.2 H locs ls hCI1 hMI1 hC hM hO hS (lv_sub hl [2, 3, 4, 5, 6] rfl)
  · refine lv_if_ne (tgt := 529) hx hb d_law_514 (by decide) (fun _ => ?_) (fun z => absurd ((nI_eq (by omega) (by omega)).mp (by rw [nI_0]; exact z)) h0)
    refine lv_goto (tgt := 1387) hx hb d_law_529 (by decide) ?_
    exact kk w1 u1 f1 R9.2.2 H locs ls hCI1 hMI1 hC hM hO hS (lv_sub hl [2, 3, 4, 5, 6] rfl)
set_option maxHeartbeats 4000000 in
set_option maxRecDepth 100000 in
theorem lk_times {p : Program} {e : Env} {s : State} {m : MethodId} {below : List Frame} {meth : Method} {c : Code} {l : Launch} (hl9 : l.stackTraces = false) {b L : Nat} {xs : Nat → Int32} (hL : L ≤ 3072) (C0 : lw_At p s m meth c b L xs) {D : va_G} {cI cB cRc cRm cL : ClassId} {adC adM : Nat → Nat} {qo : Nat} (K : LK D cI cB cRc cRm cL adC adM qo s) {i : Nat} (hi : i + 6 ≤ L) {w : St} {u : Mt} {f : Nat → Int64} {A : Ab} (hCI : CI w A) (hMI : MI u A) {H : Heap} {locs : List Loc} {ls : Array Slot} {cs sl : Nat} (hcs : cs + 20 ≤ 601024) (hsl : sl + 200 ≤ 7293034) (hC : va_P D clA (NC cI cB cRc adC w) H) (hM : va_P D clA (NM cI cB cRm adM u) H) (hO : va_P D clA (OC cL qo f) H) (hS : va_S (AL s) s.heap H locs) (hl : lv_has ls 8 [(4, .int (nI (i))), (0, .ref (b)), (1, .ref (adC 0)), (2, .ref (adM 0)), (3, .ref (qo))])
    (kk : ∀ (w : St) (u : Mt) (f : Nat → Int64) (A : Ab) (H : Heap) (locs : List Loc) (ls : Array Slot), CI w A → MI u A → va_P D clA (NC cI cB cRc adC w) H → va_P D clA (NM cI cB cRm adM u) H → va_P D clA (OC cL qo f) H → va_S (AL s) s.heap H locs → lv_has ls 8 [(4, .int (nI (i))), (0, .ref (b)), (1, .ref (adC 0)), (2, .ref (adM 0)), (3, .ref (qo))] → W p l e room_1 s m #[Value.ref b] below meth c H locs (cs + 4 + 4 + 0) (sl + 24 + 24 + 0) (lw_Z below #[Value.ref b] s) (F0 m 1387 ls [])) : W p l e room_1 s m #[Value.ref b] below meth c H locs (cs) (sl) (lw_Z below #[Value.ref b] s) (F0 m 532 ls []) := by
  obtain ⟨hx, hb, hr, hml, hown, htb, hX, hbl, hlocks, hgv⟩ := C0
  have hown : s.vm.findClass R_La = some m.cls := hown
  have hts : ∀ w ∈ q_La_set :: wA, w.before #[Value.ref b] s = true := fun w hw => htb w (wA_in (by rcases List.mem_cons.mp hw with z | z; rw [z]; exact kq_La_set; exact z))
  refine lv_aload_n hx hb d_law_532 rfl (lv_at hl 2 rfl) ?_
  refine lv_aload_n hx hb d_law_533 rfl (lv_at hl 1 rfl) ?_
  refine lv_iload hx hb d_law_534 (lv_at hl 0 rfl) ?_
  refine lv_iconst (v := nI (1)) hx hb d_law_536 (by decide) ?_
  refine nw_iadd (v := nI (i + 1)) hx hb d_law_537 (nI_add _ _) ?_
  refine lb_sc hx hb hX hbl hS (j := i + 1) (by omega) hL (v := xs (i + 1)) rfl d_law_538 ?_
  refine lv_aload_n hx hb d_law_539 rfl (lv_at hl 1 rfl) ?_
  refine lv_iload hx hb d_law_540 (lv_at hl 0 rfl) ?_
  refine lv_iconst (v := nI (2)) hx hb d_law_542 (by decide) ?_
  refine nw_iadd (v := nI (i + 2)) hx hb d_law_543 (nI_add _ _) ?_
  refine lb_sc hx hb hX hbl hS (j := i + 2) (by omega) hL (v := xs (i + 2)) rfl d_law_544 ?_
  refine lv_aload_n hx hb d_law_545 rfl (lv_at hl 1 rfl) ?_
  refine lv_iload hx hb d_law_546 (lv_at hl 0 rfl) ?_
  refine lv_iconst (v := nI (3)) hx hb d_law_548 (by decide) ?_
  refine nw_iadd (v := nI (i + 3)) hx hb d_law_549 (nI_add _ _) ?_
  refine lb_sc hx hb hX hbl hS (j := i + 3) (by omega) hL (v := xs (i + 3)) rfl d_law_550 ?_
  refine lv_aload_n hx hb d_law_551 rfl (lv_at hl 4 rfl) ?_
  obtain ⟨R9, hR9⟩ : ∃ R9, R9 = sp_times (xs (i + 1)) (xs (i + 2)) (xs (i + 3)) A := ⟨_, rfl⟩
  have h2 : R9.1 ≤ 2 := by rw [hR9]; exact le2_times (xs (i + 1)) (xs (i + 2)) (xs (i + 3)) A
  refine lb_H (own := R_La) (As := [.ref (adC 0), .int (xs (i + 1)), .int (xs (i + 2)), .int (xs (i + 3)), .ref (qo)]) (rest := []) (n := 5) ⟨hx, hb, hml, hown, hts⟩ K (c_La_times l w f _ hl9 (xs (i + 1)) (xs (i + 2)) (xs (i + 3)) A hCI) (vx_cwSW 5 hts (gSo lm_La_107 st_La_times in_La kq_La_times) rfl rfl rfl (by decide +kernel) ⟨Nat.le_of_ble_eq_true rfl, Nat.le_of_ble_eq_true rfl⟩) hC hM hO hS rfl hl.1 rfl (Nat.le_of_ble_eq_true rfl) d_law_552 ⟨by show cs + 4 ≤ 601024; omega, by show sl + 24 ≤ 7293034; omega⟩ (fun r w1 f1 H locs hp hC hM hO hS => ?_)
  rw [← hR9] at hp
  obtain ⟨hCI1, hr1, ha1⟩ := hp
  subst hr1
  refine lv_istore (lv' := [(5, .int (nI (R9.1))), (4, .int (nI (i))), (0, .ref (b)), (1, .ref (adC 0)), (2, .ref (adM 0)), (3, .ref (qo))]) hx hb d_law_555 hl (by decide) rfl (fun ls hl => ?_)
  refine lv_aload_n hx hb d_law_557 rfl (lv_at hl 4 rfl) ?_
  refine lv_aload_n hx hb d_law_558 rfl (lv_at hl 2 rfl) ?_
  refine lv_iload hx hb d_law_559 (lv_at hl 1 rfl) ?_
  refine lv_iconst (v := nI (1)) hx hb d_law_561 (by decide) ?_
  refine nw_iadd (v := nI (i + 1)) hx hb d_law_562 (nI_add _ _) ?_
  refine lb_sc hx hb hX hbl hS (j := i + 1) (by omega) hL (v := xs (i + 1)) rfl d_law_563 ?_
  refine lv_aload_n hx hb d_law_564 rfl (lv_at hl 2 rfl) ?_
  refine lv_iload hx hb d_law_565 (lv_at hl 1 rfl) ?_
  refine lv_iconst (v := nI (2)) hx hb d_law_567 (by decide) ?_
  refine nw_iadd (v := nI (i + 2)) hx hb d_law_568 (nI_add _ _) ?_
  refine lb_sc hx hb hX hbl hS (j := i + 2) (by omega) hL (v := xs (i + 2)) rfl d_law_569 ?_
  refine lv_aload_n hx hb d_law_570 rfl (lv_at hl 2 rfl) ?_
  refine lv_iload hx hb d_law_571 (lv_at hl 1 rfl) ?_
  refine lv_iconst (v := nI (3)) hx hb d_law_573 (by decide) ?_
  refine nw_iadd (v := nI (i + 3)) hx hb d_law_574 (nI_add _ _) ?_
  refine lb_sc hx hb hX hbl hS (j := i + 3) (by omega) hL (v := xs (i + 3)) rfl d_law_575 ?_
  refine lb_Mi (own := R_La) (C := R_Mo) (As := [.int (xs (i + 1)), .int (xs (i + 2)), .int (xs (i + 3))]) (rest := []) (n := 3) ⟨hx, hb, hml, hown, hts⟩ K (c_Mo_times l u _ hl9 (xs (i + 1)) (xs (i + 2)) (xs (i + 3)) A hMI) (vx_cwVW 3 hts (gV lm_La_109 im_Mo_times se_Mo_times in_Mo kq_Mo_times) rfl rfl rfl (by decide +kernel) ⟨Nat.le_of_ble_eq_true rfl, Nat.le_of_ble_eq_true rfl⟩) (recMo K.kM hM) hC hM hO hS rfl hl.1 rfl (Nat.le_of_ble_eq_true rfl) d_law_576 ⟨by show cs + 4 + 4 ≤ 601024; omega, by show sl + 24 + 24 ≤ 7293034; omega⟩ (fun r2 u1 H locs hp hC hM hO hS => ?_)
  rw [← hR9] at hp
  obtain ⟨hMI1, hX1, hb1⟩ := hp
  refine lv_istore (lv' := [(6, .int (r2)), (5, .int (nI (R9.1))), (4, .int (nI (i))), (0, .ref (b)), (1, .ref (adC 0)), (2, .ref (adM 0)), (3, .ref (qo))]) hx hb d_law_579 hl (by decide) rfl (fun ls hl => ?_)
  refine lv_aload_n hx hb d_law_581 rfl (lv_at hl 5 rfl) ?_
  refine lb_T (own := R_La) (C := R_Mo) (As := []) (rest := []) (n := 0) ⟨hx, hb, hml, hown, hts⟩ K (c_Mo_thrown l u1 _) (cwV0 0 hts lm_La_89 im_Mo_thrown se_Mo_thrown in_Mo kq_Mo_thrown rfl rfl rfl (by decide +kernel) ⟨Nat.le_of_ble_eq_true rfl, Nat.le_of_ble_eq_true rfl⟩) (recMo K.kM hM) hC hM hO hS rfl hl.1 rfl (Nat.le_of_ble_eq_true rfl) d_law_582 ⟨by show cs + 4 + 4 + 0 ≤ 601024; omega, by show sl + 24 + 24 + 0 ≤ 7293034; omega⟩ (fun r3 u2 H locs hp hC hM hO hS => ?_)
  obtain ⟨hr3, hu2⟩ := hp
  rw [hX1] at hr3
  subst hr3
  rw [hu2] at hM
  refine lv_iload hx hb d_law_585 (lv_at hl 1 rfl) ?_
  refine lv_icmp_eq (tgt := 592) hx hb d_law_587 (by decide) (fun _ => ?_) (fun z => absurd rfl z)
  refine lv_iload hx hb d_law_592 (lv_at hl 1 rfl) ?_
  by_cases h0 : R9.1 = 0
  · refine lv_if_ne (tgt := 609) hx hb d_law_594 (by decide) (fun z => absurd (by rw [h0]; exact nI_0) z) (fun _ => ?_)
    have hr2 := hb1 h0
    subst hr2
    refine lv_aload_n hx hb d_law_597 rfl (lv_at hl 6 rfl) ?_
    refine lv_iconst (v := nI (0)) hx hb d_law_598 (by decide) ?_
    refine lb_ld hx hb K hO (v := (R9.2.1).toInt64) (ha1 h0) d_law_599 ?_
    refine lv_iload hx hb d_law_600 (lv_at hl 0 rfl) ?_
    refine lv_i2l (v := R9.2.1.toInt64) hx hb d_law_602 rfl ?_
    refine W.lcmp hx hb d_law_603 ?_
    refine lv_if_eq (tgt := 609) hx hb d_law_604 (by decide) (fun _ => ?_) (fun z => absurd ((lg_cmp_eq _ _).mpr rfl) z)
    refine lv_goto (tgt := 1387) hx hb d_law_609 (by decide) ?_
    exact kk w1 u1 f1 R9.2.2 H locs ls hCI1 hMI1 hC hM hO hS (lv_sub hl [2, 3, 4, 5, 6] rfl)
  · refine lv_if_ne (tgt := 609) hx hb d_law_594 (by decide) (fun _ => ?_) (fun z => absurd ((nI_eq (by omega) (by omega)).mp (by rw [nI_0]; exact z)) h0)
    refine lv_goto (tgt := 1387) hx hb d_law_609 (by decide) ?_
    exact kk w1 u1 f1 R9.2.2 H locs ls hCI1 hMI1 hC hM hO hS (lv_sub hl [2, 3, 4, 5, 6] rfl)
set_option maxHeartbeats 4000000 in
set_option maxRecDepth 100000 in
theorem lk_divide {p : Program} {e : Env} {s : State} {m : MethodId} {below : List Frame} {meth : Method} {c : Code} {l : Launch} (hl9 : l.stackTraces = false) {b L : Nat} {xs : Nat → Int32} (hL : L ≤ 3072) (C0 : lw_At p s m meth c b L xs) {D : va_G} {cI cB cRc cRm cL : ClassId} {adC adM : Nat → Nat} {qo : Nat} (K : LK D cI cB cRc cRm cL adC adM qo s) {i : Nat} (hi : i + 6 ≤ L) {w : St} {u : Mt} {f : Nat → Int64} {A : Ab} (hCI : CI w A) (hMI : MI u A) {H : Heap} {locs : List Loc} {ls : Array Slot} {cs sl : Nat} (hcs : cs + 20 ≤ 601024) (hsl : sl + 200 ≤ 7293034) (hC : va_P D clA (NC cI cB cRc adC w) H) (hM : va_P D clA (NM cI cB cRm adM u) H) (hO : va_P D clA (OC cL qo f) H) (hS : va_S (AL s) s.heap H locs) (hl : lv_has ls 8 [(4, .int (nI (i))), (0, .ref (b)), (1, .ref (adC 0)), (2, .ref (adM 0)), (3, .ref (qo))])
    (kk : ∀ (w : St) (u : Mt) (f : Nat → Int64) (A : Ab) (H : Heap) (locs : List Loc) (ls : Array Slot), CI w A → MI u A → va_P D clA (NC cI cB cRc adC w) H → va_P D clA (NM cI cB cRm adM u) H → va_P D clA (OC cL qo f) H → va_S (AL s) s.heap H locs → lv_has ls 8 [(4, .int (nI (i))), (0, .ref (b)), (1, .ref (adC 0)), (2, .ref (adM 0)), (3, .ref (qo))] → W p l e room_1 s m #[Value.ref b] below meth c H locs (cs + 5 + 5 + 0) (sl + 30 + 30 + 0) (lw_Z below #[Value.ref b] s) (F0 m 1387 ls [])) : W p l e room_1 s m #[Value.ref b] below meth c H locs (cs) (sl) (lw_Z below #[Value.ref b] s) (F0 m 612 ls []) := by
  obtain ⟨hx, hb, hr, hml, hown, htb, hX, hbl, hlocks, hgv⟩ := C0
  have hown : s.vm.findClass R_La = some m.cls := hown
  have hts : ∀ w ∈ q_La_set :: wA, w.before #[Value.ref b] s = true := fun w hw => htb w (wA_in (by rcases List.mem_cons.mp hw with z | z; rw [z]; exact kq_La_set; exact z))
  refine lv_aload_n hx hb d_law_612 rfl (lv_at hl 2 rfl) ?_
  refine lv_aload_n hx hb d_law_613 rfl (lv_at hl 1 rfl) ?_
  refine lv_iload hx hb d_law_614 (lv_at hl 0 rfl) ?_
  refine lv_iconst (v := nI (1)) hx hb d_law_616 (by decide) ?_
  refine nw_iadd (v := nI (i + 1)) hx hb d_law_617 (nI_add _ _) ?_
  refine lb_sc hx hb hX hbl hS (j := i + 1) (by omega) hL (v := xs (i + 1)) rfl d_law_618 ?_
  refine lv_aload_n hx hb d_law_619 rfl (lv_at hl 1 rfl) ?_
  refine lv_iload hx hb d_law_620 (lv_at hl 0 rfl) ?_
  refine lv_iconst (v := nI (2)) hx hb d_law_622 (by decide) ?_
  refine nw_iadd (v := nI (i + 2)) hx hb d_law_623 (nI_add _ _) ?_
  refine lb_sc hx hb hX hbl hS (j := i + 2) (by omega) hL (v := xs (i + 2)) rfl d_law_624 ?_
  refine lv_aload_n hx hb d_law_625 rfl (lv_at hl 1 rfl) ?_
  refine lv_iload hx hb d_law_626 (lv_at hl 0 rfl) ?_
  refine lv_iconst (v := nI (3)) hx hb d_law_628 (by decide) ?_
  refine nw_iadd (v := nI (i + 3)) hx hb d_law_629 (nI_add _ _) ?_
  refine lb_sc hx hb hX hbl hS (j := i + 3) (by omega) hL (v := xs (i + 3)) rfl d_law_630 ?_
  refine lv_aload_n hx hb d_law_631 rfl (lv_at hl 1 rfl) ?_
  refine lv_iload hx hb d_law_632 (lv_at hl 0 rfl) ?_
  refine lv_iconst (v := nI (4)) hx hb d_law_634 (by decide) ?_
  refine nw_iadd (v := nI (i + 4)) hx hb d_law_635 (nI_add _ _) ?_
  refine lb_sc hx hb hX hbl hS (j := i + 4) (by omega) hL (v := xs (i + 4)) rfl d_law_636 ?_
  refine lv_aload_n hx hb d_law_637 rfl (lv_at hl 4 rfl) ?_
  obtain ⟨R9, hR9⟩ : ∃ R9, R9 = sp_divide (xs (i + 1)) (xs (i + 2)) (xs (i + 3)) (xs (i + 4)) A := ⟨_, rfl⟩
  have h2 : R9.1 ≤ 2 := by rw [hR9]; exact le2_divide (xs (i + 1)) (xs (i + 2)) (xs (i + 3)) (xs (i + 4)) A
  refine lb_H (own := R_La) (As := [.ref (adC 0), .int (xs (i + 1)), .int (xs (i + 2)), .int (xs (i + 3)), .int (xs (i + 4)), .ref (qo)]) (rest := []) (n := 6) ⟨hx, hb, hml, hown, hts⟩ K (c_La_divide l w f _ hl9 (xs (i + 1)) (xs (i + 2)) (xs (i + 3)) (xs (i + 4)) A hCI) (vx_cwSW 6 hts (gSo lm_La_110 st_La_divide in_La kq_La_divide) rfl rfl rfl (by decide +kernel) ⟨Nat.le_of_ble_eq_true rfl, Nat.le_of_ble_eq_true rfl⟩) hC hM hO hS rfl hl.1 rfl (Nat.le_of_ble_eq_true rfl) d_law_638 ⟨by show cs + 5 ≤ 601024; omega, by show sl + 30 ≤ 7293034; omega⟩ (fun r w1 f1 H locs hp hC hM hO hS => ?_)
  rw [← hR9] at hp
  obtain ⟨hCI1, hr1, ha1⟩ := hp
  subst hr1
  refine lv_istore (lv' := [(5, .int (nI (R9.1))), (4, .int (nI (i))), (0, .ref (b)), (1, .ref (adC 0)), (2, .ref (adM 0)), (3, .ref (qo))]) hx hb d_law_641 hl (by decide) rfl (fun ls hl => ?_)
  refine lv_aload_n hx hb d_law_643 rfl (lv_at hl 4 rfl) ?_
  refine lv_aload_n hx hb d_law_644 rfl (lv_at hl 2 rfl) ?_
  refine lv_iload hx hb d_law_645 (lv_at hl 1 rfl) ?_
  refine lv_iconst (v := nI (1)) hx hb d_law_647 (by decide) ?_
  refine nw_iadd (v := nI (i + 1)) hx hb d_law_648 (nI_add _ _) ?_
  refine lb_sc hx hb hX hbl hS (j := i + 1) (by omega) hL (v := xs (i + 1)) rfl d_law_649 ?_
  refine lv_aload_n hx hb d_law_650 rfl (lv_at hl 2 rfl) ?_
  refine lv_iload hx hb d_law_651 (lv_at hl 1 rfl) ?_
  refine lv_iconst (v := nI (2)) hx hb d_law_653 (by decide) ?_
  refine nw_iadd (v := nI (i + 2)) hx hb d_law_654 (nI_add _ _) ?_
  refine lb_sc hx hb hX hbl hS (j := i + 2) (by omega) hL (v := xs (i + 2)) rfl d_law_655 ?_
  refine lv_aload_n hx hb d_law_656 rfl (lv_at hl 2 rfl) ?_
  refine lv_iload hx hb d_law_657 (lv_at hl 1 rfl) ?_
  refine lv_iconst (v := nI (3)) hx hb d_law_659 (by decide) ?_
  refine nw_iadd (v := nI (i + 3)) hx hb d_law_660 (nI_add _ _) ?_
  refine lb_sc hx hb hX hbl hS (j := i + 3) (by omega) hL (v := xs (i + 3)) rfl d_law_661 ?_
  refine lv_aload_n hx hb d_law_662 rfl (lv_at hl 2 rfl) ?_
  refine lv_iload hx hb d_law_663 (lv_at hl 1 rfl) ?_
  refine lv_iconst (v := nI (4)) hx hb d_law_665 (by decide) ?_
  refine nw_iadd (v := nI (i + 4)) hx hb d_law_666 (nI_add _ _) ?_
  refine lb_sc hx hb hX hbl hS (j := i + 4) (by omega) hL (v := xs (i + 4)) rfl d_law_667 ?_
  refine lb_Mi (own := R_La) (C := R_Mo) (As := [.int (xs (i + 1)), .int (xs (i + 2)), .int (xs (i + 3)), .int (xs (i + 4))]) (rest := []) (n := 4) ⟨hx, hb, hml, hown, hts⟩ K (c_Mo_divide l u _ hl9 (xs (i + 1)) (xs (i + 2)) (xs (i + 3)) (xs (i + 4)) A hMI) (vx_cwVW 4 hts (gV lm_La_113 im_Mo_divide_IIII se_Mo_divide_IIII in_Mo kq_Mo_divide_IIII) rfl rfl rfl (by decide +kernel) ⟨Nat.le_of_ble_eq_true rfl, Nat.le_of_ble_eq_true rfl⟩) (recMo K.kM hM) hC hM hO hS rfl hl.1 rfl (Nat.le_of_ble_eq_true rfl) d_law_668 ⟨by show cs + 5 + 5 ≤ 601024; omega, by show sl + 30 + 30 ≤ 7293034; omega⟩ (fun r2 u1 H locs hp hC hM hO hS => ?_)
  rw [← hR9] at hp
  obtain ⟨hMI1, hX1, hb1⟩ := hp
  refine lv_istore (lv' := [(6, .int (r2)), (5, .int (nI (R9.1))), (4, .int (nI (i))), (0, .ref (b)), (1, .ref (adC 0)), (2, .ref (adM 0)), (3, .ref (qo))]) hx hb d_law_671 hl (by decide) rfl (fun ls hl => ?_)
  refine lv_aload_n hx hb d_law_673 rfl (lv_at hl 5 rfl) ?_
  refine lb_T (own := R_La) (C := R_Mo) (As := []) (rest := []) (n := 0) ⟨hx, hb, hml, hown, hts⟩ K (c_Mo_thrown l u1 _) (cwV0 0 hts lm_La_89 im_Mo_thrown se_Mo_thrown in_Mo kq_Mo_thrown rfl rfl rfl (by decide +kernel) ⟨Nat.le_of_ble_eq_true rfl, Nat.le_of_ble_eq_true rfl⟩) (recMo K.kM hM) hC hM hO hS rfl hl.1 rfl (Nat.le_of_ble_eq_true rfl) d_law_674 ⟨by show cs + 5 + 5 + 0 ≤ 601024; omega, by show sl + 30 + 30 + 0 ≤ 7293034; omega⟩ (fun r3 u2 H locs hp hC hM hO hS => ?_)
  obtain ⟨hr3, hu2⟩ := hp
  rw [hX1] at hr3
  subst hr3
  rw [hu2] at hM
  refine lv_iload hx hb d_law_677 (lv_at hl 1 rfl) ?_
  refine lv_icmp_eq (tgt := 684) hx hb d_law_679 (by decide) (fun _ => ?_) (fun z => absurd rfl z)
  refine lv_iload hx hb d_law_684 (lv_at hl 1 rfl) ?_
  by_cases h0 : R9.1 = 0
  · refine lv_if_ne (tgt := 701) hx hb d_law_686 (by decide) (fun z => absurd (by rw [h0]; exact nI_0) z) (fun _ => ?_)
    have hr2 := hb1 h0
    subst hr2
    refine lv_aload_n hx hb d_law_689 rfl (lv_at hl 6 rfl) ?_
    refine lv_iconst (v := nI (0)) hx hb d_law_690 (by decide) ?_
    refine lb_ld hx hb K hO (v := (R9.2.1).toInt64) (ha1 h0) d_law_691 ?_
    refine lv_iload hx hb d_law_692 (lv_at hl 0 rfl) ?_
    refine lv_i2l (v := R9.2.1.toInt64) hx hb d_law_694 rfl ?_
    refine W.lcmp hx hb d_law_695 ?_
    refine lv_if_eq (tgt := 701) hx hb d_law_696 (by decide) (fun _ => ?_) (fun z => absurd ((lg_cmp_eq _ _).mpr rfl) z)
    refine lv_goto (tgt := 1387) hx hb d_law_701 (by decide) ?_
    exact kk w1 u1 f1 R9.2.2 H locs ls hCI1 hMI1 hC hM hO hS (lv_sub hl [2, 3, 4, 5, 6] rfl)
  · refine lv_if_ne (tgt := 701) hx hb d_law_686 (by decide) (fun _ => ?_) (fun z => absurd ((nI_eq (by omega) (by omega)).mp (by rw [nI_0]; exact z)) h0)
    refine lv_goto (tgt := 1387) hx hb d_law_701 (by decide) ?_
    exact kk w1 u1 f1 R9.2.2 H locs ls hCI1 hMI1 hC hM hO hS (lv_sub hl [2, 3, 4, 5, 6] rfl)
set_option maxHeartbeats 4000000 in
set_option maxRecDepth 100000 in
theorem lk_power {p : Program} {e : Env} {s : State} {m : MethodId} {below : List Frame} {meth : Method} {c : Code} {l : Launch} (hl9 : l.stackTraces = false) {b L : Nat} {xs : Nat → Int32} (hL : L ≤ 3072) (C0 : lw_At p s m meth c b L xs) {D : va_G} {cI cB cRc cRm cL : ClassId} {adC adM : Nat → Nat} {qo : Nat} (K : LK D cI cB cRc cRm cL adC adM qo s) {i : Nat} (hi : i + 6 ≤ L) {w : St} {u : Mt} {f : Nat → Int64} {A : Ab} (hCI : CI w A) (hMI : MI u A) {H : Heap} {locs : List Loc} {ls : Array Slot} {cs sl : Nat} (hcs : cs + 20 ≤ 601024) (hsl : sl + 200 ≤ 7293034) (hC : va_P D clA (NC cI cB cRc adC w) H) (hM : va_P D clA (NM cI cB cRm adM u) H) (hO : va_P D clA (OC cL qo f) H) (hS : va_S (AL s) s.heap H locs) (hl : lv_has ls 8 [(4, .int (nI (i))), (0, .ref (b)), (1, .ref (adC 0)), (2, .ref (adM 0)), (3, .ref (qo))])
    (kk : ∀ (w : St) (u : Mt) (f : Nat → Int64) (A : Ab) (H : Heap) (locs : List Loc) (ls : Array Slot), CI w A → MI u A → va_P D clA (NC cI cB cRc adC w) H → va_P D clA (NM cI cB cRm adM u) H → va_P D clA (OC cL qo f) H → va_S (AL s) s.heap H locs → lv_has ls 8 [(4, .int (nI (i))), (0, .ref (b)), (1, .ref (adC 0)), (2, .ref (adM 0)), (3, .ref (qo))] → W p l e room_1 s m #[Value.ref b] below meth c H locs (cs + 4 + 4 + 0) (sl + 24 + 24 + 0) (lw_Z below #[Value.ref b] s) (F0 m 1387 ls [])) : W p l e room_1 s m #[Value.ref b] below meth c H locs (cs) (sl) (lw_Z below #[Value.ref b] s) (F0 m 704 ls []) := by
  obtain ⟨hx, hb, hr, hml, hown, htb, hX, hbl, hlocks, hgv⟩ := C0
  have hown : s.vm.findClass R_La = some m.cls := hown
  have hts : ∀ w ∈ q_La_set :: wA, w.before #[Value.ref b] s = true := fun w hw => htb w (wA_in (by rcases List.mem_cons.mp hw with z | z; rw [z]; exact kq_La_set; exact z))
  refine lv_aload_n hx hb d_law_704 rfl (lv_at hl 2 rfl) ?_
  refine lv_aload_n hx hb d_law_705 rfl (lv_at hl 1 rfl) ?_
  refine lv_iload hx hb d_law_706 (lv_at hl 0 rfl) ?_
  refine lv_iconst (v := nI (1)) hx hb d_law_708 (by decide) ?_
  refine nw_iadd (v := nI (i + 1)) hx hb d_law_709 (nI_add _ _) ?_
  refine lb_sc hx hb hX hbl hS (j := i + 1) (by omega) hL (v := xs (i + 1)) rfl d_law_710 ?_
  refine lv_aload_n hx hb d_law_711 rfl (lv_at hl 1 rfl) ?_
  refine lv_iload hx hb d_law_712 (lv_at hl 0 rfl) ?_
  refine lv_iconst (v := nI (2)) hx hb d_law_714 (by decide) ?_
  refine nw_iadd (v := nI (i + 2)) hx hb d_law_715 (nI_add _ _) ?_
  refine lb_sc hx hb hX hbl hS (j := i + 2) (by omega) hL (v := xs (i + 2)) rfl d_law_716 ?_
  refine lv_aload_n hx hb d_law_717 rfl (lv_at hl 1 rfl) ?_
  refine lv_iload hx hb d_law_718 (lv_at hl 0 rfl) ?_
  refine lv_iconst (v := nI (3)) hx hb d_law_720 (by decide) ?_
  refine nw_iadd (v := nI (i + 3)) hx hb d_law_721 (nI_add _ _) ?_
  refine lb_sc hx hb hX hbl hS (j := i + 3) (by omega) hL (v := xs (i + 3)) rfl d_law_722 ?_
  refine lv_aload_n hx hb d_law_723 rfl (lv_at hl 4 rfl) ?_
  obtain ⟨R9, hR9⟩ : ∃ R9, R9 = sp_power (xs (i + 1)) (xs (i + 2)) (xs (i + 3)) A := ⟨_, rfl⟩
  have h2 : R9.1 ≤ 2 := by rw [hR9]; exact le2_power (xs (i + 1)) (xs (i + 2)) (xs (i + 3)) A
  refine lb_H (own := R_La) (As := [.ref (adC 0), .int (xs (i + 1)), .int (xs (i + 2)), .int (xs (i + 3)), .ref (qo)]) (rest := []) (n := 5) ⟨hx, hb, hml, hown, hts⟩ K (c_La_power l w f _ hl9 (xs (i + 1)) (xs (i + 2)) (xs (i + 3)) A hCI) (vx_cwSW 5 hts (gSo lm_La_114 st_La_power in_La kq_La_power) rfl rfl rfl (by decide +kernel) ⟨Nat.le_of_ble_eq_true rfl, Nat.le_of_ble_eq_true rfl⟩) hC hM hO hS rfl hl.1 rfl (Nat.le_of_ble_eq_true rfl) d_law_724 ⟨by show cs + 4 ≤ 601024; omega, by show sl + 24 ≤ 7293034; omega⟩ (fun r w1 f1 H locs hp hC hM hO hS => ?_)
  rw [← hR9] at hp
  obtain ⟨hCI1, hr1, ha1⟩ := hp
  subst hr1
  refine lv_istore (lv' := [(5, .int (nI (R9.1))), (4, .int (nI (i))), (0, .ref (b)), (1, .ref (adC 0)), (2, .ref (adM 0)), (3, .ref (qo))]) hx hb d_law_727 hl (by decide) rfl (fun ls hl => ?_)
  refine lv_aload_n hx hb d_law_729 rfl (lv_at hl 4 rfl) ?_
  refine lv_aload_n hx hb d_law_730 rfl (lv_at hl 2 rfl) ?_
  refine lv_iload hx hb d_law_731 (lv_at hl 1 rfl) ?_
  refine lv_iconst (v := nI (1)) hx hb d_law_733 (by decide) ?_
  refine nw_iadd (v := nI (i + 1)) hx hb d_law_734 (nI_add _ _) ?_
  refine lb_sc hx hb hX hbl hS (j := i + 1) (by omega) hL (v := xs (i + 1)) rfl d_law_735 ?_
  refine lv_aload_n hx hb d_law_736 rfl (lv_at hl 2 rfl) ?_
  refine lv_iload hx hb d_law_737 (lv_at hl 1 rfl) ?_
  refine lv_iconst (v := nI (2)) hx hb d_law_739 (by decide) ?_
  refine nw_iadd (v := nI (i + 2)) hx hb d_law_740 (nI_add _ _) ?_
  refine lb_sc hx hb hX hbl hS (j := i + 2) (by omega) hL (v := xs (i + 2)) rfl d_law_741 ?_
  refine lv_aload_n hx hb d_law_742 rfl (lv_at hl 2 rfl) ?_
  refine lv_iload hx hb d_law_743 (lv_at hl 1 rfl) ?_
  refine lv_iconst (v := nI (3)) hx hb d_law_745 (by decide) ?_
  refine nw_iadd (v := nI (i + 3)) hx hb d_law_746 (nI_add _ _) ?_
  refine lb_sc hx hb hX hbl hS (j := i + 3) (by omega) hL (v := xs (i + 3)) rfl d_law_747 ?_
  refine lb_Mi (own := R_La) (C := R_Mo) (As := [.int (xs (i + 1)), .int (xs (i + 2)), .int (xs (i + 3))]) (rest := []) (n := 3) ⟨hx, hb, hml, hown, hts⟩ K (c_Mo_power l u _ hl9 (xs (i + 1)) (xs (i + 2)) (xs (i + 3)) A hMI) (vx_cwVW 3 hts (gV lm_La_116 im_Mo_power se_Mo_power in_Mo kq_Mo_power) rfl rfl rfl (by decide +kernel) ⟨Nat.le_of_ble_eq_true rfl, Nat.le_of_ble_eq_true rfl⟩) (recMo K.kM hM) hC hM hO hS rfl hl.1 rfl (Nat.le_of_ble_eq_true rfl) d_law_748 ⟨by show cs + 4 + 4 ≤ 601024; omega, by show sl + 24 + 24 ≤ 7293034; omega⟩ (fun r2 u1 H locs hp hC hM hO hS => ?_)
  rw [← hR9] at hp
  obtain ⟨hMI1, hX1, hb1⟩ := hp
  refine lv_istore (lv' := [(6, .int (r2)), (5, .int (nI (R9.1))), (4, .int (nI (i))), (0, .ref (b)), (1, .ref (adC 0)), (2, .ref (adM 0)), (3, .ref (qo))]) hx hb d_law_751 hl (by decide) rfl (fun ls hl => ?_)
  refine lv_aload_n hx hb d_law_753 rfl (lv_at hl 5 rfl) ?_
  refine lb_T (own := R_La) (C := R_Mo) (As := []) (rest := []) (n := 0) ⟨hx, hb, hml, hown, hts⟩ K (c_Mo_thrown l u1 _) (cwV0 0 hts lm_La_89 im_Mo_thrown se_Mo_thrown in_Mo kq_Mo_thrown rfl rfl rfl (by decide +kernel) ⟨Nat.le_of_ble_eq_true rfl, Nat.le_of_ble_eq_true rfl⟩) (recMo K.kM hM) hC hM hO hS rfl hl.1 rfl (Nat.le_of_ble_eq_true rfl) d_law_754 ⟨by show cs + 4 + 4 + 0 ≤ 601024; omega, by show sl + 24 + 24 + 0 ≤ 7293034; omega⟩ (fun r3 u2 H locs hp hC hM hO hS => ?_)
  obtain ⟨hr3, hu2⟩ := hp
  rw [hX1] at hr3
  subst hr3
  rw [hu2] at hM
  refine lv_iload hx hb d_law_757 (lv_at hl 1 rfl) ?_
  refine lv_icmp_eq (tgt := 764) hx hb d_law_759 (by decide) (fun _ => ?_) (fun z => absurd rfl z)
  refine lv_iload hx hb d_law_764 (lv_at hl 1 rfl) ?_
  by_cases h0 : R9.1 = 0
  · refine lv_if_ne (tgt := 781) hx hb d_law_766 (by decide) (fun z => absurd (by rw [h0]; exact nI_0) z) (fun _ => ?_)
    have hr2 := hb1 h0
    subst hr2
    refine lv_aload_n hx hb d_law_769 rfl (lv_at hl 6 rfl) ?_
    refine lv_iconst (v := nI (0)) hx hb d_law_770 (by decide) ?_
    refine lb_ld hx hb K hO (v := (R9.2.1).toInt64) (ha1 h0) d_law_771 ?_
    refine lv_iload hx hb d_law_772 (lv_at hl 0 rfl) ?_
    refine lv_i2l (v := R9.2.1.toInt64) hx hb d_law_774 rfl ?_
    refine W.lcmp hx hb d_law_775 ?_
    refine lv_if_eq (tgt := 781) hx hb d_law_776 (by decide) (fun _ => ?_) (fun z => absurd ((lg_cmp_eq _ _).mpr rfl) z)
    refine lv_goto (tgt := 1387) hx hb d_law_781 (by decide) ?_
    exact kk w1 u1 f1 R9.2.2 H locs ls hCI1 hMI1 hC hM hO hS (lv_sub hl [2, 3, 4, 5, 6] rfl)
  · refine lv_if_ne (tgt := 781) hx hb d_law_766 (by decide) (fun _ => ?_) (fun z => absurd ((nI_eq (by omega) (by omega)).mp (by rw [nI_0]; exact z)) h0)
    refine lv_goto (tgt := 1387) hx hb d_law_781 (by decide) ?_
    exact kk w1 u1 f1 R9.2.2 H locs ls hCI1 hMI1 hC hM hO hS (lv_sub hl [2, 3, 4, 5, 6] rfl)
set_option maxHeartbeats 4000000 in
set_option maxRecDepth 100000 in
theorem lk_root {p : Program} {e : Env} {s : State} {m : MethodId} {below : List Frame} {meth : Method} {c : Code} {l : Launch} (hl9 : l.stackTraces = false) {b L : Nat} {xs : Nat → Int32} (hL : L ≤ 3072) (C0 : lw_At p s m meth c b L xs) {D : va_G} {cI cB cRc cRm cL : ClassId} {adC adM : Nat → Nat} {qo : Nat} (K : LK D cI cB cRc cRm cL adC adM qo s) {i : Nat} (hi : i + 6 ≤ L) {w : St} {u : Mt} {f : Nat → Int64} {A : Ab} (hCI : CI w A) (hMI : MI u A) {H : Heap} {locs : List Loc} {ls : Array Slot} {cs sl : Nat} (hcs : cs + 20 ≤ 601024) (hsl : sl + 200 ≤ 7293034) (hC : va_P D clA (NC cI cB cRc adC w) H) (hM : va_P D clA (NM cI cB cRm adM u) H) (hO : va_P D clA (OC cL qo f) H) (hS : va_S (AL s) s.heap H locs) (hl : lv_has ls 8 [(4, .int (nI (i))), (0, .ref (b)), (1, .ref (adC 0)), (2, .ref (adM 0)), (3, .ref (qo))])
    (kk : ∀ (w : St) (u : Mt) (f : Nat → Int64) (A : Ab) (H : Heap) (locs : List Loc) (ls : Array Slot), CI w A → MI u A → va_P D clA (NC cI cB cRc adC w) H → va_P D clA (NM cI cB cRm adM u) H → va_P D clA (OC cL qo f) H → va_S (AL s) s.heap H locs → lv_has ls 8 [(4, .int (nI (i))), (0, .ref (b)), (1, .ref (adC 0)), (2, .ref (adM 0)), (3, .ref (qo))] → W p l e room_1 s m #[Value.ref b] below meth c H locs (cs + 3 + 3 + 0) (sl + 18 + 18 + 0) (lw_Z below #[Value.ref b] s) (F0 m 1387 ls [])) : W p l e room_1 s m #[Value.ref b] below meth c H locs (cs) (sl) (lw_Z below #[Value.ref b] s) (F0 m 784 ls []) := by
  obtain ⟨hx, hb, hr, hml, hown, htb, hX, hbl, hlocks, hgv⟩ := C0
  have hown : s.vm.findClass R_La = some m.cls := hown
  have hts : ∀ w ∈ q_La_set :: wA, w.before #[Value.ref b] s = true := fun w hw => htb w (wA_in (by rcases List.mem_cons.mp hw with z | z; rw [z]; exact kq_La_set; exact z))
  refine lv_aload_n hx hb d_law_784 rfl (lv_at hl 2 rfl) ?_
  refine lv_aload_n hx hb d_law_785 rfl (lv_at hl 1 rfl) ?_
  refine lv_iload hx hb d_law_786 (lv_at hl 0 rfl) ?_
  refine lv_iconst (v := nI (1)) hx hb d_law_788 (by decide) ?_
  refine nw_iadd (v := nI (i + 1)) hx hb d_law_789 (nI_add _ _) ?_
  refine lb_sc hx hb hX hbl hS (j := i + 1) (by omega) hL (v := xs (i + 1)) rfl d_law_790 ?_
  refine lv_aload_n hx hb d_law_791 rfl (lv_at hl 1 rfl) ?_
  refine lv_iload hx hb d_law_792 (lv_at hl 0 rfl) ?_
  refine lv_iconst (v := nI (2)) hx hb d_law_794 (by decide) ?_
  refine nw_iadd (v := nI (i + 2)) hx hb d_law_795 (nI_add _ _) ?_
  refine lb_sc hx hb hX hbl hS (j := i + 2) (by omega) hL (v := xs (i + 2)) rfl d_law_796 ?_
  refine lv_aload_n hx hb d_law_797 rfl (lv_at hl 1 rfl) ?_
  refine lv_iload hx hb d_law_798 (lv_at hl 0 rfl) ?_
  refine lv_iconst (v := nI (3)) hx hb d_law_800 (by decide) ?_
  refine nw_iadd (v := nI (i + 3)) hx hb d_law_801 (nI_add _ _) ?_
  refine lb_sc hx hb hX hbl hS (j := i + 3) (by omega) hL (v := xs (i + 3)) rfl d_law_802 ?_
  refine lv_aload_n hx hb d_law_803 rfl (lv_at hl 4 rfl) ?_
  obtain ⟨R9, hR9⟩ : ∃ R9, R9 = sp_root (xs (i + 1)) (xs (i + 2)) (xs (i + 3)) A := ⟨_, rfl⟩
  have h2 : R9.1 ≤ 2 := by rw [hR9]; exact le2_root (xs (i + 1)) (xs (i + 2)) (xs (i + 3)) A
  refine lb_H (own := R_La) (As := [.ref (adC 0), .int (xs (i + 1)), .int (xs (i + 2)), .int (xs (i + 3)), .ref (qo)]) (rest := []) (n := 5) ⟨hx, hb, hml, hown, hts⟩ K (c_La_root l w f _ hl9 (xs (i + 1)) (xs (i + 2)) (xs (i + 3)) A hCI) (vx_cwSW 5 hts (gSo lm_La_117 st_La_root in_La kq_La_root) rfl rfl rfl (by decide +kernel) ⟨Nat.le_of_ble_eq_true rfl, Nat.le_of_ble_eq_true rfl⟩) hC hM hO hS rfl hl.1 rfl (Nat.le_of_ble_eq_true rfl) d_law_804 ⟨by show cs + 3 ≤ 601024; omega, by show sl + 18 ≤ 7293034; omega⟩ (fun r w1 f1 H locs hp hC hM hO hS => ?_)
  rw [← hR9] at hp
  obtain ⟨hCI1, hr1, ha1⟩ := hp
  subst hr1
  refine lv_istore (lv' := [(5, .int (nI (R9.1))), (4, .int (nI (i))), (0, .ref (b)), (1, .ref (adC 0)), (2, .ref (adM 0)), (3, .ref (qo))]) hx hb d_law_807 hl (by decide) rfl (fun ls hl => ?_)
  refine lv_aload_n hx hb d_law_809 rfl (lv_at hl 4 rfl) ?_
  refine lv_aload_n hx hb d_law_810 rfl (lv_at hl 2 rfl) ?_
  refine lv_iload hx hb d_law_811 (lv_at hl 1 rfl) ?_
  refine lv_iconst (v := nI (1)) hx hb d_law_813 (by decide) ?_
  refine nw_iadd (v := nI (i + 1)) hx hb d_law_814 (nI_add _ _) ?_
  refine lb_sc hx hb hX hbl hS (j := i + 1) (by omega) hL (v := xs (i + 1)) rfl d_law_815 ?_
  refine lv_aload_n hx hb d_law_816 rfl (lv_at hl 2 rfl) ?_
  refine lv_iload hx hb d_law_817 (lv_at hl 1 rfl) ?_
  refine lv_iconst (v := nI (2)) hx hb d_law_819 (by decide) ?_
  refine nw_iadd (v := nI (i + 2)) hx hb d_law_820 (nI_add _ _) ?_
  refine lb_sc hx hb hX hbl hS (j := i + 2) (by omega) hL (v := xs (i + 2)) rfl d_law_821 ?_
  refine lv_aload_n hx hb d_law_822 rfl (lv_at hl 2 rfl) ?_
  refine lv_iload hx hb d_law_823 (lv_at hl 1 rfl) ?_
  refine lv_iconst (v := nI (3)) hx hb d_law_825 (by decide) ?_
  refine nw_iadd (v := nI (i + 3)) hx hb d_law_826 (nI_add _ _) ?_
  refine lb_sc hx hb hX hbl hS (j := i + 3) (by omega) hL (v := xs (i + 3)) rfl d_law_827 ?_
  refine lb_Mi (own := R_La) (C := R_Mo) (As := [.int (xs (i + 1)), .int (xs (i + 2)), .int (xs (i + 3))]) (rest := []) (n := 3) ⟨hx, hb, hml, hown, hts⟩ K (c_Mo_root l u _ hl9 (xs (i + 1)) (xs (i + 2)) (xs (i + 3)) A hMI) (vx_cwVW 3 hts (gV lm_La_119 im_Mo_root se_Mo_root in_Mo kq_Mo_root) rfl rfl rfl (by decide +kernel) ⟨Nat.le_of_ble_eq_true rfl, Nat.le_of_ble_eq_true rfl⟩) (recMo K.kM hM) hC hM hO hS rfl hl.1 rfl (Nat.le_of_ble_eq_true rfl) d_law_828 ⟨by show cs + 3 + 3 ≤ 601024; omega, by show sl + 18 + 18 ≤ 7293034; omega⟩ (fun r2 u1 H locs hp hC hM hO hS => ?_)
  rw [← hR9] at hp
  obtain ⟨hMI1, hX1, hb1⟩ := hp
  refine lv_istore (lv' := [(6, .int (r2)), (5, .int (nI (R9.1))), (4, .int (nI (i))), (0, .ref (b)), (1, .ref (adC 0)), (2, .ref (adM 0)), (3, .ref (qo))]) hx hb d_law_831 hl (by decide) rfl (fun ls hl => ?_)
  refine lv_aload_n hx hb d_law_833 rfl (lv_at hl 5 rfl) ?_
  refine lb_T (own := R_La) (C := R_Mo) (As := []) (rest := []) (n := 0) ⟨hx, hb, hml, hown, hts⟩ K (c_Mo_thrown l u1 _) (cwV0 0 hts lm_La_89 im_Mo_thrown se_Mo_thrown in_Mo kq_Mo_thrown rfl rfl rfl (by decide +kernel) ⟨Nat.le_of_ble_eq_true rfl, Nat.le_of_ble_eq_true rfl⟩) (recMo K.kM hM) hC hM hO hS rfl hl.1 rfl (Nat.le_of_ble_eq_true rfl) d_law_834 ⟨by show cs + 3 + 3 + 0 ≤ 601024; omega, by show sl + 18 + 18 + 0 ≤ 7293034; omega⟩ (fun r3 u2 H locs hp hC hM hO hS => ?_)
  obtain ⟨hr3, hu2⟩ := hp
  rw [hX1] at hr3
  subst hr3
  rw [hu2] at hM
  refine lv_iload hx hb d_law_837 (lv_at hl 1 rfl) ?_
  refine lv_icmp_eq (tgt := 844) hx hb d_law_839 (by decide) (fun _ => ?_) (fun z => absurd rfl z)
  refine lv_iload hx hb d_law_844 (lv_at hl 1 rfl) ?_
  by_cases h0 : R9.1 = 0
  · refine lv_if_ne (tgt := 861) hx hb d_law_846 (by decide) (fun z => absurd (by rw [h0]; exact nI_0) z) (fun _ => ?_)
    have hr2 := hb1 h0
    subst hr2
    refine lv_aload_n hx hb d_law_849 rfl (lv_at hl 6 rfl) ?_
    refine lv_iconst (v := nI (0)) hx hb d_law_850 (by decide) ?_
    refine lb_ld hx hb K hO (v := (R9.2.1).toInt64) (ha1 h0) d_law_851 ?_
    refine lv_iload hx hb d_law_852 (lv_at hl 0 rfl) ?_
    refine lv_i2l (v := R9.2.1.toInt64) hx hb d_law_854 rfl ?_
    refine W.lcmp hx hb d_law_855 ?_
    refine lv_if_eq (tgt := 861) hx hb d_law_856 (by decide) (fun _ => ?_) (fun z => absurd ((lg_cmp_eq _ _).mpr rfl) z)
    refine lv_goto (tgt := 1387) hx hb d_law_861 (by decide) ?_
    exact kk w1 u1 f1 R9.2.2 H locs ls hCI1 hMI1 hC hM hO hS (lv_sub hl [2, 3, 4, 5, 6] rfl)
  · refine lv_if_ne (tgt := 861) hx hb d_law_846 (by decide) (fun _ => ?_) (fun z => absurd ((nI_eq (by omega) (by omega)).mp (by rw [nI_0]; exact z)) h0)
    refine lv_goto (tgt := 1387) hx hb d_law_861 (by decide) ?_
    exact kk w1 u1 f1 R9.2.2 H locs ls hCI1 hMI1 hC hM hO hS (lv_sub hl [2, 3, 4, 5, 6] rfl)
set_option maxHeartbeats 4000000 in
set_option maxRecDepth 100000 in
theorem lk_compare {p : Program} {e : Env} {s : State} {m : MethodId} {below : List Frame} {meth : Method} {c : Code} {l : Launch} (hl9 : l.stackTraces = false) {b L : Nat} {xs : Nat → Int32} (hL : L ≤ 3072) (C0 : lw_At p s m meth c b L xs) {D : va_G} {cI cB cRc cRm cL : ClassId} {adC adM : Nat → Nat} {qo : Nat} (K : LK D cI cB cRc cRm cL adC adM qo s) {i : Nat} (hi : i + 6 ≤ L) {w : St} {u : Mt} {f : Nat → Int64} {A : Ab} (hCI : CI w A) (hMI : MI u A) {H : Heap} {locs : List Loc} {ls : Array Slot} {cs sl : Nat} (hcs : cs + 20 ≤ 601024) (hsl : sl + 200 ≤ 7293034) (hC : va_P D clA (NC cI cB cRc adC w) H) (hM : va_P D clA (NM cI cB cRm adM u) H) (hO : va_P D clA (OC cL qo f) H) (hS : va_S (AL s) s.heap H locs) (hl : lv_has ls 8 [(4, .int (nI (i))), (0, .ref (b)), (1, .ref (adC 0)), (2, .ref (adM 0)), (3, .ref (qo))])
    (kk : ∀ (w : St) (u : Mt) (f : Nat → Int64) (A : Ab) (H : Heap) (locs : List Loc) (ls : Array Slot), CI w A → MI u A → va_P D clA (NC cI cB cRc adC w) H → va_P D clA (NM cI cB cRm adM u) H → va_P D clA (OC cL qo f) H → va_S (AL s) s.heap H locs → lv_has ls 8 [(4, .int (nI (i))), (0, .ref (b)), (1, .ref (adC 0)), (2, .ref (adM 0)), (3, .ref (qo))] → W p l e room_1 s m #[Value.ref b] below meth c H locs (cs + 2 + 2 + 0) (sl + 12 + 12 + 0) (lw_Z below #[Value.ref b] s) (F0 m 1387 ls [])) : W p l e room_1 s m #[Value.ref b] below meth c H locs (cs) (sl) (lw_Z below #[Value.ref b] s) (F0 m 864 ls []) := by
  obtain ⟨hx, hb, hr, hml, hown, htb, hX, hbl, hlocks, hgv⟩ := C0
  have hown : s.vm.findClass R_La = some m.cls := hown
  have hts : ∀ w ∈ q_La_set :: wA, w.before #[Value.ref b] s = true := fun w hw => htb w (wA_in (by rcases List.mem_cons.mp hw with z | z; rw [z]; exact kq_La_set; exact z))
  refine lv_aload_n hx hb d_law_864 rfl (lv_at hl 2 rfl) ?_
  refine lv_aload_n hx hb d_law_865 rfl (lv_at hl 1 rfl) ?_
  refine lv_iload hx hb d_law_866 (lv_at hl 0 rfl) ?_
  refine lv_iconst (v := nI (1)) hx hb d_law_868 (by decide) ?_
  refine nw_iadd (v := nI (i + 1)) hx hb d_law_869 (nI_add _ _) ?_
  refine lb_sc hx hb hX hbl hS (j := i + 1) (by omega) hL (v := xs (i + 1)) rfl d_law_870 ?_
  refine lv_aload_n hx hb d_law_871 rfl (lv_at hl 1 rfl) ?_
  refine lv_iload hx hb d_law_872 (lv_at hl 0 rfl) ?_
  refine lv_iconst (v := nI (2)) hx hb d_law_874 (by decide) ?_
  refine nw_iadd (v := nI (i + 2)) hx hb d_law_875 (nI_add _ _) ?_
  refine lb_sc hx hb hX hbl hS (j := i + 2) (by omega) hL (v := xs (i + 2)) rfl d_law_876 ?_
  refine lv_aload_n hx hb d_law_877 rfl (lv_at hl 4 rfl) ?_
  obtain ⟨R9, hR9⟩ : ∃ R9, R9 = sp_compare (xs (i + 1)) (xs (i + 2)) A := ⟨_, rfl⟩
  have h2 : R9.1 ≤ 2 := by rw [hR9]; exact le2_compare (xs (i + 1)) (xs (i + 2)) A
  refine lb_H (own := R_La) (As := [.ref (adC 0), .int (xs (i + 1)), .int (xs (i + 2)), .ref (qo)]) (rest := []) (n := 4) ⟨hx, hb, hml, hown, hts⟩ K (c_La_compare l w f _ hl9 (xs (i + 1)) (xs (i + 2)) A hCI) (vx_cwSW 4 hts (gSo lm_La_120 st_La_compare in_La kq_La_compare) rfl rfl rfl (by decide +kernel) ⟨Nat.le_of_ble_eq_true rfl, Nat.le_of_ble_eq_true rfl⟩) hC hM hO hS rfl hl.1 rfl (Nat.le_of_ble_eq_true rfl) d_law_878 ⟨by show cs + 2 ≤ 601024; omega, by show sl + 12 ≤ 7293034; omega⟩ (fun r w1 f1 H locs hp hC hM hO hS => ?_)
  rw [← hR9] at hp
  obtain ⟨hCI1, hr1, ha1⟩ := hp
  subst hr1
  refine lv_istore (lv' := [(5, .int (nI (R9.1))), (4, .int (nI (i))), (0, .ref (b)), (1, .ref (adC 0)), (2, .ref (adM 0)), (3, .ref (qo))]) hx hb d_law_881 hl (by decide) rfl (fun ls hl => ?_)
  refine lv_aload_n hx hb d_law_883 rfl (lv_at hl 4 rfl) ?_
  refine lv_aload_n hx hb d_law_884 rfl (lv_at hl 2 rfl) ?_
  refine lv_iload hx hb d_law_885 (lv_at hl 1 rfl) ?_
  refine lv_iconst (v := nI (1)) hx hb d_law_887 (by decide) ?_
  refine nw_iadd (v := nI (i + 1)) hx hb d_law_888 (nI_add _ _) ?_
  refine lb_sc hx hb hX hbl hS (j := i + 1) (by omega) hL (v := xs (i + 1)) rfl d_law_889 ?_
  refine lv_aload_n hx hb d_law_890 rfl (lv_at hl 2 rfl) ?_
  refine lv_iload hx hb d_law_891 (lv_at hl 1 rfl) ?_
  refine lv_iconst (v := nI (2)) hx hb d_law_893 (by decide) ?_
  refine nw_iadd (v := nI (i + 2)) hx hb d_law_894 (nI_add _ _) ?_
  refine lb_sc hx hb hX hbl hS (j := i + 2) (by omega) hL (v := xs (i + 2)) rfl d_law_895 ?_
  refine lb_Mi (own := R_La) (C := R_Mo) (As := [.int (xs (i + 1)), .int (xs (i + 2))]) (rest := []) (n := 2) ⟨hx, hb, hml, hown, hts⟩ K (c_Mo_compare l u _ hl9 (xs (i + 1)) (xs (i + 2)) A hMI) (vx_cwVW 2 hts (gV lm_La_122 im_Mo_compare se_Mo_compare in_Mo kq_Mo_compare) rfl rfl rfl (by decide +kernel) ⟨Nat.le_of_ble_eq_true rfl, Nat.le_of_ble_eq_true rfl⟩) (recMo K.kM hM) hC hM hO hS rfl hl.1 rfl (Nat.le_of_ble_eq_true rfl) d_law_896 ⟨by show cs + 2 + 2 ≤ 601024; omega, by show sl + 12 + 12 ≤ 7293034; omega⟩ (fun r2 u1 H locs hp hC hM hO hS => ?_)
  rw [← hR9] at hp
  obtain ⟨hMI1, hX1, hb1⟩ := hp
  refine lv_istore (lv' := [(6, .int (r2)), (5, .int (nI (R9.1))), (4, .int (nI (i))), (0, .ref (b)), (1, .ref (adC 0)), (2, .ref (adM 0)), (3, .ref (qo))]) hx hb d_law_899 hl (by decide) rfl (fun ls hl => ?_)
  refine lv_aload_n hx hb d_law_901 rfl (lv_at hl 5 rfl) ?_
  refine lb_T (own := R_La) (C := R_Mo) (As := []) (rest := []) (n := 0) ⟨hx, hb, hml, hown, hts⟩ K (c_Mo_thrown l u1 _) (cwV0 0 hts lm_La_89 im_Mo_thrown se_Mo_thrown in_Mo kq_Mo_thrown rfl rfl rfl (by decide +kernel) ⟨Nat.le_of_ble_eq_true rfl, Nat.le_of_ble_eq_true rfl⟩) (recMo K.kM hM) hC hM hO hS rfl hl.1 rfl (Nat.le_of_ble_eq_true rfl) d_law_902 ⟨by show cs + 2 + 2 + 0 ≤ 601024; omega, by show sl + 12 + 12 + 0 ≤ 7293034; omega⟩ (fun r3 u2 H locs hp hC hM hO hS => ?_)
  obtain ⟨hr3, hu2⟩ := hp
  rw [hX1] at hr3
  subst hr3
  rw [hu2] at hM
  refine lv_iload hx hb d_law_905 (lv_at hl 1 rfl) ?_
  refine lv_icmp_eq (tgt := 912) hx hb d_law_907 (by decide) (fun _ => ?_) (fun z => absurd rfl z)
  refine lv_iload hx hb d_law_912 (lv_at hl 1 rfl) ?_
  by_cases h0 : R9.1 = 0
  · refine lv_if_ne (tgt := 929) hx hb d_law_914 (by decide) (fun z => absurd (by rw [h0]; exact nI_0) z) (fun _ => ?_)
    have hr2 := hb1 h0
    subst hr2
    refine lv_aload_n hx hb d_law_917 rfl (lv_at hl 6 rfl) ?_
    refine lv_iconst (v := nI (0)) hx hb d_law_918 (by decide) ?_
    refine lb_ld hx hb K hO (v := (R9.2.1).toInt64) (ha1 h0) d_law_919 ?_
    refine lv_iload hx hb d_law_920 (lv_at hl 0 rfl) ?_
    refine lv_i2l (v := R9.2.1.toInt64) hx hb d_law_922 rfl ?_
    refine W.lcmp hx hb d_law_923 ?_
    refine lv_if_eq (tgt := 929) hx hb d_law_924 (by decide) (fun _ => ?_) (fun z => absurd ((lg_cmp_eq _ _).mpr rfl) z)
    refine lv_goto (tgt := 1387) hx hb d_law_929 (by decide) ?_
    exact kk w1 u1 f1 R9.2.2 H locs ls hCI1 hMI1 hC hM hO hS (lv_sub hl [2, 3, 4, 5, 6] rfl)
  · refine lv_if_ne (tgt := 929) hx hb d_law_914 (by decide) (fun _ => ?_) (fun z => absurd ((nI_eq (by omega) (by omega)).mp (by rw [nI_0]; exact z)) h0)
    refine lv_goto (tgt := 1387) hx hb d_law_929 (by decide) ?_
    exact kk w1 u1 f1 R9.2.2 H locs ls hCI1 hMI1 hC hM hO hS (lv_sub hl [2, 3, 4, 5, 6] rfl)
set_option maxHeartbeats 4000000 in
set_option maxRecDepth 100000 in
theorem lk_bits {p : Program} {e : Env} {s : State} {m : MethodId} {below : List Frame} {meth : Method} {c : Code} {l : Launch} (hl9 : l.stackTraces = false) {b L : Nat} {xs : Nat → Int32} (hL : L ≤ 3072) (C0 : lw_At p s m meth c b L xs) {D : va_G} {cI cB cRc cRm cL : ClassId} {adC adM : Nat → Nat} {qo : Nat} (K : LK D cI cB cRc cRm cL adC adM qo s) {i : Nat} (hi : i + 6 ≤ L) {w : St} {u : Mt} {f : Nat → Int64} {A : Ab} (hCI : CI w A) (hMI : MI u A) {H : Heap} {locs : List Loc} {ls : Array Slot} {cs sl : Nat} (hcs : cs + 20 ≤ 601024) (hsl : sl + 200 ≤ 7293034) (hC : va_P D clA (NC cI cB cRc adC w) H) (hM : va_P D clA (NM cI cB cRm adM u) H) (hO : va_P D clA (OC cL qo f) H) (hS : va_S (AL s) s.heap H locs) (hl : lv_has ls 8 [(4, .int (nI (i))), (0, .ref (b)), (1, .ref (adC 0)), (2, .ref (adM 0)), (3, .ref (qo))])
    (kk : ∀ (w : St) (u : Mt) (f : Nat → Int64) (A : Ab) (H : Heap) (locs : List Loc) (ls : Array Slot), CI w A → MI u A → va_P D clA (NC cI cB cRc adC w) H → va_P D clA (NM cI cB cRm adM u) H → va_P D clA (OC cL qo f) H → va_S (AL s) s.heap H locs → lv_has ls 8 [(4, .int (nI (i))), (0, .ref (b)), (1, .ref (adC 0)), (2, .ref (adM 0)), (3, .ref (qo))] → W p l e room_1 s m #[Value.ref b] below meth c H locs (cs + 1 + 1 + 0) (sl + 6 + 6 + 0) (lw_Z below #[Value.ref b] s) (F0 m 1387 ls [])) : W p l e room_1 s m #[Value.ref b] below meth c H locs (cs) (sl) (lw_Z below #[Value.ref b] s) (F0 m 932 ls []) := by
  obtain ⟨hx, hb, hr, hml, hown, htb, hX, hbl, hlocks, hgv⟩ := C0
  have hown : s.vm.findClass R_La = some m.cls := hown
  have hts : ∀ w ∈ q_La_set :: wA, w.before #[Value.ref b] s = true := fun w hw => htb w (wA_in (by rcases List.mem_cons.mp hw with z | z; rw [z]; exact kq_La_set; exact z))
  refine lv_aload_n hx hb d_law_932 rfl (lv_at hl 2 rfl) ?_
  refine lv_aload_n hx hb d_law_933 rfl (lv_at hl 1 rfl) ?_
  refine lv_iload hx hb d_law_934 (lv_at hl 0 rfl) ?_
  refine lv_iconst (v := nI (1)) hx hb d_law_936 (by decide) ?_
  refine nw_iadd (v := nI (i + 1)) hx hb d_law_937 (nI_add _ _) ?_
  refine lb_sc hx hb hX hbl hS (j := i + 1) (by omega) hL (v := xs (i + 1)) rfl d_law_938 ?_
  refine lv_aload_n hx hb d_law_939 rfl (lv_at hl 4 rfl) ?_
  obtain ⟨R9, hR9⟩ : ∃ R9, R9 = sp_bits (xs (i + 1)) A := ⟨_, rfl⟩
  have h2 : R9.1 ≤ 2 := by rw [hR9]; exact le2_bits (xs (i + 1)) A
  refine lb_H (own := R_La) (As := [.ref (adC 0), .int (xs (i + 1)), .ref (qo)]) (rest := []) (n := 3) ⟨hx, hb, hml, hown, hts⟩ K (c_La_bits l w f _ hl9 (xs (i + 1)) A hCI) (vx_cwSW 3 hts (gSo lm_La_123 st_La_bits in_La kq_La_bits) rfl rfl rfl (by decide +kernel) ⟨Nat.le_of_ble_eq_true rfl, Nat.le_of_ble_eq_true rfl⟩) hC hM hO hS rfl hl.1 rfl (Nat.le_of_ble_eq_true rfl) d_law_940 ⟨by show cs + 1 ≤ 601024; omega, by show sl + 6 ≤ 7293034; omega⟩ (fun r w1 f1 H locs hp hC hM hO hS => ?_)
  rw [← hR9] at hp
  obtain ⟨hCI1, hr1, ha1⟩ := hp
  subst hr1
  refine lv_istore (lv' := [(5, .int (nI (R9.1))), (4, .int (nI (i))), (0, .ref (b)), (1, .ref (adC 0)), (2, .ref (adM 0)), (3, .ref (qo))]) hx hb d_law_943 hl (by decide) rfl (fun ls hl => ?_)
  refine lv_aload_n hx hb d_law_945 rfl (lv_at hl 4 rfl) ?_
  refine lv_aload_n hx hb d_law_946 rfl (lv_at hl 2 rfl) ?_
  refine lv_iload hx hb d_law_947 (lv_at hl 1 rfl) ?_
  refine lv_iconst (v := nI (1)) hx hb d_law_949 (by decide) ?_
  refine nw_iadd (v := nI (i + 1)) hx hb d_law_950 (nI_add _ _) ?_
  refine lb_sc hx hb hX hbl hS (j := i + 1) (by omega) hL (v := xs (i + 1)) rfl d_law_951 ?_
  refine lb_Mi (own := R_La) (C := R_Mo) (As := [.int (xs (i + 1))]) (rest := []) (n := 1) ⟨hx, hb, hml, hown, hts⟩ K (c_Mo_bits l u _ hl9 (xs (i + 1)) A hMI) (vx_cwVW 1 hts (gV lm_La_126 im_Mo_bits se_Mo_bits in_Mo kq_Mo_bits) rfl rfl rfl (by decide +kernel) ⟨Nat.le_of_ble_eq_true rfl, Nat.le_of_ble_eq_true rfl⟩) (recMo K.kM hM) hC hM hO hS rfl hl.1 rfl (Nat.le_of_ble_eq_true rfl) d_law_952 ⟨by show cs + 1 + 1 ≤ 601024; omega, by show sl + 6 + 6 ≤ 7293034; omega⟩ (fun r2 u1 H locs hp hC hM hO hS => ?_)
  rw [← hR9] at hp
  obtain ⟨hMI1, hX1, hb1⟩ := hp
  refine lv_istore (lv' := [(6, .int (r2)), (5, .int (nI (R9.1))), (4, .int (nI (i))), (0, .ref (b)), (1, .ref (adC 0)), (2, .ref (adM 0)), (3, .ref (qo))]) hx hb d_law_955 hl (by decide) rfl (fun ls hl => ?_)
  refine lv_aload_n hx hb d_law_957 rfl (lv_at hl 5 rfl) ?_
  refine lb_T (own := R_La) (C := R_Mo) (As := []) (rest := []) (n := 0) ⟨hx, hb, hml, hown, hts⟩ K (c_Mo_thrown l u1 _) (cwV0 0 hts lm_La_89 im_Mo_thrown se_Mo_thrown in_Mo kq_Mo_thrown rfl rfl rfl (by decide +kernel) ⟨Nat.le_of_ble_eq_true rfl, Nat.le_of_ble_eq_true rfl⟩) (recMo K.kM hM) hC hM hO hS rfl hl.1 rfl (Nat.le_of_ble_eq_true rfl) d_law_958 ⟨by show cs + 1 + 1 + 0 ≤ 601024; omega, by show sl + 6 + 6 + 0 ≤ 7293034; omega⟩ (fun r3 u2 H locs hp hC hM hO hS => ?_)
  obtain ⟨hr3, hu2⟩ := hp
  rw [hX1] at hr3
  subst hr3
  rw [hu2] at hM
  refine lv_iload hx hb d_law_961 (lv_at hl 1 rfl) ?_
  refine lv_icmp_eq (tgt := 968) hx hb d_law_963 (by decide) (fun _ => ?_) (fun z => absurd rfl z)
  refine lv_iload hx hb d_law_968 (lv_at hl 1 rfl) ?_
  by_cases h0 : R9.1 = 0
  · refine lv_if_ne (tgt := 985) hx hb d_law_970 (by decide) (fun z => absurd (by rw [h0]; exact nI_0) z) (fun _ => ?_)
    have hr2 := hb1 h0
    subst hr2
    refine lv_aload_n hx hb d_law_973 rfl (lv_at hl 6 rfl) ?_
    refine lv_iconst (v := nI (0)) hx hb d_law_974 (by decide) ?_
    refine lb_ld hx hb K hO (v := (R9.2.1).toInt64) (ha1 h0) d_law_975 ?_
    refine lv_iload hx hb d_law_976 (lv_at hl 0 rfl) ?_
    refine lv_i2l (v := R9.2.1.toInt64) hx hb d_law_978 rfl ?_
    refine W.lcmp hx hb d_law_979 ?_
    refine lv_if_eq (tgt := 985) hx hb d_law_980 (by decide) (fun _ => ?_) (fun z => absurd ((lg_cmp_eq _ _).mpr rfl) z)
    refine lv_goto (tgt := 1387) hx hb d_law_985 (by decide) ?_
    exact kk w1 u1 f1 R9.2.2 H locs ls hCI1 hMI1 hC hM hO hS (lv_sub hl [2, 3, 4, 5, 6] rfl)
  · refine lv_if_ne (tgt := 985) hx hb d_law_970 (by decide) (fun _ => ?_) (fun z => absurd ((nI_eq (by omega) (by omega)).mp (by rw [nI_0]; exact z)) h0)
    refine lv_goto (tgt := 1387) hx hb d_law_985 (by decide) ?_
    exact kk w1 u1 f1 R9.2.2 H locs ls hCI1 hMI1 hC hM hO hS (lv_sub hl [2, 3, 4, 5, 6] rfl)
set_option maxHeartbeats 4000000 in
set_option maxRecDepth 100000 in
theorem lk_word {p : Program} {e : Env} {s : State} {m : MethodId} {below : List Frame} {meth : Method} {c : Code} {l : Launch} (hl9 : l.stackTraces = false) {b L : Nat} {xs : Nat → Int32} (hL : L ≤ 3072) (C0 : lw_At p s m meth c b L xs) {D : va_G} {cI cB cRc cRm cL : ClassId} {adC adM : Nat → Nat} {qo : Nat} (K : LK D cI cB cRc cRm cL adC adM qo s) {i : Nat} (hi : i + 6 ≤ L) {w : St} {u : Mt} {f : Nat → Int64} {A : Ab} (hCI : CI w A) (hMI : MI u A) {H : Heap} {locs : List Loc} {ls : Array Slot} {cs sl : Nat} (hcs : cs + 20 ≤ 601024) (hsl : sl + 200 ≤ 7293034) (hC : va_P D clA (NC cI cB cRc adC w) H) (hM : va_P D clA (NM cI cB cRm adM u) H) (hO : va_P D clA (OC cL qo f) H) (hS : va_S (AL s) s.heap H locs) (hl : lv_has ls 8 [(4, .int (nI (i))), (0, .ref (b)), (1, .ref (adC 0)), (2, .ref (adM 0)), (3, .ref (qo))])
    (kk : ∀ (w : St) (u : Mt) (f : Nat → Int64) (A : Ab) (H : Heap) (locs : List Loc) (ls : Array Slot), CI w A → MI u A → va_P D clA (NC cI cB cRc adC w) H → va_P D clA (NM cI cB cRm adM u) H → va_P D clA (OC cL qo f) H → va_S (AL s) s.heap H locs → lv_has ls 8 [(4, .int (nI (i))), (0, .ref (b)), (1, .ref (adC 0)), (2, .ref (adM 0)), (3, .ref (qo))] → W p l e room_1 s m #[Value.ref b] below meth c H locs (cs + 2 + 2 + 0) (sl + 12 + 12 + 0) (lw_Z below #[Value.ref b] s) (F0 m 1387 ls [])) : W p l e room_1 s m #[Value.ref b] below meth c H locs (cs) (sl) (lw_Z below #[Value.ref b] s) (F0 m 988 ls []) := by
  obtain ⟨hx, hb, hr, hml, hown, htb, hX, hbl, hlocks, hgv⟩ := C0
  have hown : s.vm.findClass R_La = some m.cls := hown
  have hts : ∀ w ∈ q_La_set :: wA, w.before #[Value.ref b] s = true := fun w hw => htb w (wA_in (by rcases List.mem_cons.mp hw with z | z; rw [z]; exact kq_La_set; exact z))
  refine lv_aload_n hx hb d_law_988 rfl (lv_at hl 2 rfl) ?_
  refine lv_aload_n hx hb d_law_989 rfl (lv_at hl 1 rfl) ?_
  refine lv_iload hx hb d_law_990 (lv_at hl 0 rfl) ?_
  refine lv_iconst (v := nI (1)) hx hb d_law_992 (by decide) ?_
  refine nw_iadd (v := nI (i + 1)) hx hb d_law_993 (nI_add _ _) ?_
  refine lb_sc hx hb hX hbl hS (j := i + 1) (by omega) hL (v := xs (i + 1)) rfl d_law_994 ?_
  refine lv_aload_n hx hb d_law_995 rfl (lv_at hl 1 rfl) ?_
  refine lv_iload hx hb d_law_996 (lv_at hl 0 rfl) ?_
  refine lv_iconst (v := nI (2)) hx hb d_law_998 (by decide) ?_
  refine nw_iadd (v := nI (i + 2)) hx hb d_law_999 (nI_add _ _) ?_
  refine lb_sc hx hb hX hbl hS (j := i + 2) (by omega) hL (v := xs (i + 2)) rfl d_law_1000 ?_
  refine lv_aload_n hx hb d_law_1001 rfl (lv_at hl 4 rfl) ?_
  obtain ⟨R9, hR9⟩ : ∃ R9, R9 = sp_word (xs (i + 1)) (xs (i + 2)) A := ⟨_, rfl⟩
  have h2 : R9.1 ≤ 2 := by rw [hR9]; exact le2_word (xs (i + 1)) (xs (i + 2)) A
  refine lb_H (own := R_La) (As := [.ref (adC 0), .int (xs (i + 1)), .int (xs (i + 2)), .ref (qo)]) (rest := []) (n := 4) ⟨hx, hb, hml, hown, hts⟩ K (c_La_word l w f _ hl9 (xs (i + 1)) (xs (i + 2)) A hCI) (vx_cwSW 4 hts (gSo lm_La_127 st_La_word in_La kq_La_word) rfl rfl rfl (by decide +kernel) ⟨Nat.le_of_ble_eq_true rfl, Nat.le_of_ble_eq_true rfl⟩) hC hM hO hS rfl hl.1 rfl (Nat.le_of_ble_eq_true rfl) d_law_1002 ⟨by show cs + 2 ≤ 601024; omega, by show sl + 12 ≤ 7293034; omega⟩ (fun r w1 f1 H locs hp hC hM hO hS => ?_)
  rw [← hR9] at hp
  obtain ⟨hCI1, hr1, ha1⟩ := hp
  subst hr1
  refine lv_istore (lv' := [(5, .int (nI (R9.1))), (4, .int (nI (i))), (0, .ref (b)), (1, .ref (adC 0)), (2, .ref (adM 0)), (3, .ref (qo))]) hx hb d_law_1005 hl (by decide) rfl (fun ls hl => ?_)
  refine lv_aload_n hx hb d_law_1007 rfl (lv_at hl 4 rfl) ?_
  refine lv_aload_n hx hb d_law_1008 rfl (lv_at hl 2 rfl) ?_
  refine lv_iload hx hb d_law_1009 (lv_at hl 1 rfl) ?_
  refine lv_iconst (v := nI (1)) hx hb d_law_1011 (by decide) ?_
  refine nw_iadd (v := nI (i + 1)) hx hb d_law_1012 (nI_add _ _) ?_
  refine lb_sc hx hb hX hbl hS (j := i + 1) (by omega) hL (v := xs (i + 1)) rfl d_law_1013 ?_
  refine lv_aload_n hx hb d_law_1014 rfl (lv_at hl 2 rfl) ?_
  refine lv_iload hx hb d_law_1015 (lv_at hl 1 rfl) ?_
  refine lv_iconst (v := nI (2)) hx hb d_law_1017 (by decide) ?_
  refine nw_iadd (v := nI (i + 2)) hx hb d_law_1018 (nI_add _ _) ?_
  refine lb_sc hx hb hX hbl hS (j := i + 2) (by omega) hL (v := xs (i + 2)) rfl d_law_1019 ?_
  refine lb_Ml (own := R_La) (C := R_Mo) (As := [.int (xs (i + 1)), .int (xs (i + 2))]) (rest := []) (n := 2) ⟨hx, hb, hml, hown, hts⟩ K (c_Mo_word l u _ hl9 (xs (i + 1)) (xs (i + 2)) A hMI) (vx_cwVW 2 hts (gV lm_La_129 im_Mo_word se_Mo_word in_Mo kq_Mo_word) rfl rfl rfl (by decide +kernel) ⟨Nat.le_of_ble_eq_true rfl, Nat.le_of_ble_eq_true rfl⟩) (recMo K.kM hM) hC hM hO hS rfl hl.1 rfl (Nat.le_of_ble_eq_true rfl) d_law_1020 ⟨by show cs + 2 + 2 ≤ 601024; omega, by show sl + 12 + 12 ≤ 7293034; omega⟩ (fun r2 u1 H locs hp hC hM hO hS => ?_)
  rw [← hR9] at hp
  obtain ⟨hMI1, hX1, hb1⟩ := hp
  refine lv_lstore (lv' := [(6, .long (r2)), (5, .int (nI (R9.1))), (4, .int (nI (i))), (0, .ref (b)), (1, .ref (adC 0)), (2, .ref (adM 0)), (3, .ref (qo))]) hx hb d_law_1023 hl (by decide) rfl (fun ls hl => ?_)
  refine lv_aload_n hx hb d_law_1025 rfl (lv_at hl 5 rfl) ?_
  refine lb_T (own := R_La) (C := R_Mo) (As := []) (rest := []) (n := 0) ⟨hx, hb, hml, hown, hts⟩ K (c_Mo_thrown l u1 _) (cwV0 0 hts lm_La_89 im_Mo_thrown se_Mo_thrown in_Mo kq_Mo_thrown rfl rfl rfl (by decide +kernel) ⟨Nat.le_of_ble_eq_true rfl, Nat.le_of_ble_eq_true rfl⟩) (recMo K.kM hM) hC hM hO hS rfl hl.1 rfl (Nat.le_of_ble_eq_true rfl) d_law_1026 ⟨by show cs + 2 + 2 + 0 ≤ 601024; omega, by show sl + 12 + 12 + 0 ≤ 7293034; omega⟩ (fun r3 u2 H locs hp hC hM hO hS => ?_)
  obtain ⟨hr3, hu2⟩ := hp
  rw [hX1] at hr3
  subst hr3
  rw [hu2] at hM
  refine lv_iload hx hb d_law_1029 (lv_at hl 1 rfl) ?_
  refine lv_icmp_eq (tgt := 1036) hx hb d_law_1031 (by decide) (fun _ => ?_) (fun z => absurd rfl z)
  refine lv_iload hx hb d_law_1036 (lv_at hl 1 rfl) ?_
  by_cases h0 : R9.1 = 0
  · refine lv_if_ne (tgt := 1052) hx hb d_law_1038 (by decide) (fun z => absurd (by rw [h0]; exact nI_0) z) (fun _ => ?_)
    have hr2 := hb1 h0
    subst hr2
    refine lv_aload_n hx hb d_law_1041 rfl (lv_at hl 6 rfl) ?_
    refine lv_iconst (v := nI (0)) hx hb d_law_1042 (by decide) ?_
    refine lb_ld hx hb K hO (v := R9.2.1) (ha1 h0) d_law_1043 ?_
    refine lv_lload hx hb d_law_1044 (lv_at hl 0 rfl) ?_
    refine W.lcmp hx hb d_law_1046 ?_
    refine lv_if_eq (tgt := 1052) hx hb d_law_1047 (by decide) (fun _ => ?_) (fun z => absurd ((lg_cmp_eq _ _).mpr rfl) z)
    refine lv_goto (tgt := 1387) hx hb d_law_1052 (by decide) ?_
    exact kk w1 u1 f1 R9.2.2 H locs ls hCI1 hMI1 hC hM hO hS (lv_sub hl [2, 3, 4, 5, 6] rfl)
  · refine lv_if_ne (tgt := 1052) hx hb d_law_1038 (by decide) (fun _ => ?_) (fun z => absurd ((nI_eq (by omega) (by omega)).mp (by rw [nI_0]; exact z)) h0)
    refine lv_goto (tgt := 1387) hx hb d_law_1052 (by decide) ?_
    exact kk w1 u1 f1 R9.2.2 H locs ls hCI1 hMI1 hC hM hO hS (lv_sub hl [2, 3, 4, 5, 6] rfl)
set_option maxHeartbeats 4000000 in
set_option maxRecDepth 100000 in
theorem lk_feed {p : Program} {e : Env} {s : State} {m : MethodId} {below : List Frame} {meth : Method} {c : Code} {l : Launch} (hl9 : l.stackTraces = false) {b L : Nat} {xs : Nat → Int32} (hL : L ≤ 3072) (C0 : lw_At p s m meth c b L xs) {D : va_G} {cI cB cRc cRm cL : ClassId} {adC adM : Nat → Nat} {qo : Nat} (K : LK D cI cB cRc cRm cL adC adM qo s) {i : Nat} (hi : i + 6 ≤ L) {w : St} {u : Mt} {f : Nat → Int64} {A : Ab} (hCI : CI w A) (hMI : MI u A) {H : Heap} {locs : List Loc} {ls : Array Slot} {cs sl : Nat} (hcs : cs + 20 ≤ 601024) (hsl : sl + 200 ≤ 7293034) (hC : va_P D clA (NC cI cB cRc adC w) H) (hM : va_P D clA (NM cI cB cRm adM u) H) (hO : va_P D clA (OC cL qo f) H) (hS : va_S (AL s) s.heap H locs) (hl : lv_has ls 8 [(4, .int (nI (i))), (0, .ref (b)), (1, .ref (adC 0)), (2, .ref (adM 0)), (3, .ref (qo))])
    (kk : ∀ (w : St) (u : Mt) (f : Nat → Int64) (A : Ab) (H : Heap) (locs : List Loc) (ls : Array Slot), CI w A → MI u A → va_P D clA (NC cI cB cRc adC w) H → va_P D clA (NM cI cB cRm adM u) H → va_P D clA (OC cL qo f) H → va_S (AL s) s.heap H locs → lv_has ls 8 [(4, .int (nI (i))), (0, .ref (b)), (1, .ref (adC 0)), (2, .ref (adM 0)), (3, .ref (qo))] → W p l e room_1 s m #[Value.ref b] below meth c H locs (cs + 1 + 1 + 0) (sl + 6 + 6 + 0) (lw_Z below #[Value.ref b] s) (F0 m 1387 ls [])) : W p l e room_1 s m #[Value.ref b] below meth c H locs (cs) (sl) (lw_Z below #[Value.ref b] s) (F0 m 1055 ls []) := by
  obtain ⟨hx, hb, hr, hml, hown, htb, hX, hbl, hlocks, hgv⟩ := C0
  have hown : s.vm.findClass R_La = some m.cls := hown
  have hts : ∀ w ∈ q_La_set :: wA, w.before #[Value.ref b] s = true := fun w hw => htb w (wA_in (by rcases List.mem_cons.mp hw with z | z; rw [z]; exact kq_La_set; exact z))
  refine lv_aload_n hx hb d_law_1055 rfl (lv_at hl 2 rfl) ?_
  refine lv_aload_n hx hb d_law_1056 rfl (lv_at hl 1 rfl) ?_
  refine lv_iload hx hb d_law_1057 (lv_at hl 0 rfl) ?_
  refine lv_iconst (v := nI (1)) hx hb d_law_1059 (by decide) ?_
  refine nw_iadd (v := nI (i + 1)) hx hb d_law_1060 (nI_add _ _) ?_
  refine lb_sc hx hb hX hbl hS (j := i + 1) (by omega) hL (v := xs (i + 1)) rfl d_law_1061 ?_
  refine lv_aload_n hx hb d_law_1062 rfl (lv_at hl 1 rfl) ?_
  refine lv_iload hx hb d_law_1063 (lv_at hl 0 rfl) ?_
  refine lv_iconst (v := nI (2)) hx hb d_law_1065 (by decide) ?_
  refine nw_iadd (v := nI (i + 2)) hx hb d_law_1066 (nI_add _ _) ?_
  refine lb_sc hx hb hX hbl hS (j := i + 2) (by omega) hL (v := xs (i + 2)) rfl d_law_1067 ?_
  refine lv_aload_n hx hb d_law_1068 rfl (lv_at hl 1 rfl) ?_
  refine lv_iload hx hb d_law_1069 (lv_at hl 0 rfl) ?_
  refine lv_iconst (v := nI (3)) hx hb d_law_1071 (by decide) ?_
  refine nw_iadd (v := nI (i + 3)) hx hb d_law_1072 (nI_add _ _) ?_
  refine lb_sc hx hb hX hbl hS (j := i + 3) (by omega) hL (v := xs (i + 3)) rfl d_law_1073 ?_
  refine lv_aload_n hx hb d_law_1074 rfl (lv_at hl 1 rfl) ?_
  refine lv_iload hx hb d_law_1075 (lv_at hl 0 rfl) ?_
  refine lv_iconst (v := nI (4)) hx hb d_law_1077 (by decide) ?_
  refine nw_iadd (v := nI (i + 4)) hx hb d_law_1078 (nI_add _ _) ?_
  refine lb_sc hx hb hX hbl hS (j := i + 4) (by omega) hL (v := xs (i + 4)) rfl d_law_1079 ?_
  refine lv_aload_n hx hb d_law_1080 rfl (lv_at hl 1 rfl) ?_
  refine lv_iload hx hb d_law_1081 (lv_at hl 0 rfl) ?_
  refine lv_iconst (v := nI (5)) hx hb d_law_1083 (by decide) ?_
  refine nw_iadd (v := nI (i + 5)) hx hb d_law_1084 (nI_add _ _) ?_
  refine lb_sc hx hb hX hbl hS (j := i + 5) (by omega) hL (v := xs (i + 5)) rfl d_law_1085 ?_
  obtain ⟨R9, hR9⟩ : ∃ R9, R9 = sp_feed (xs (i + 1)) (xs (i + 2)) (xs (i + 3)) (xs (i + 4)) (xs (i + 5)) A := ⟨_, rfl⟩
  have h2 : R9.1 ≤ 2 := by rw [hR9]; exact le2_feed (xs (i + 1)) (xs (i + 2)) (xs (i + 3)) (xs (i + 4)) (xs (i + 5)) A
  refine lb_H (own := R_La) (As := [.ref (adC 0), .int (xs (i + 1)), .int (xs (i + 2)), .int (xs (i + 3)), .int (xs (i + 4)), .int (xs (i + 5))]) (rest := []) (n := 6) ⟨hx, hb, hml, hown, hts⟩ K (c_La_feed l w f _ hl9 (xs (i + 1)) (xs (i + 2)) (xs (i + 3)) (xs (i + 4)) (xs (i + 5)) A hCI) (vx_cwSW 6 hts (gSo lm_La_130 st_La_feed in_La kq_La_feed) rfl rfl rfl (by decide +kernel) ⟨Nat.le_of_ble_eq_true rfl, Nat.le_of_ble_eq_true rfl⟩) hC hM hO hS rfl hl.1 rfl (Nat.le_of_ble_eq_true rfl) d_law_1086 ⟨by show cs + 1 ≤ 601024; omega, by show sl + 6 ≤ 7293034; omega⟩ (fun r w1 f1 H locs hp hC hM hO hS => ?_)
  rw [← hR9] at hp
  obtain ⟨hCI1, hr1⟩ := hp
  subst hr1
  refine lv_istore (lv' := [(5, .int (nI (R9.1))), (4, .int (nI (i))), (0, .ref (b)), (1, .ref (adC 0)), (2, .ref (adM 0)), (3, .ref (qo))]) hx hb d_law_1089 hl (by decide) rfl (fun ls hl => ?_)
  refine lv_aload_n hx hb d_law_1091 rfl (lv_at hl 4 rfl) ?_
  refine lv_aload_n hx hb d_law_1092 rfl (lv_at hl 2 rfl) ?_
  refine lv_iload hx hb d_law_1093 (lv_at hl 1 rfl) ?_
  refine lv_iconst (v := nI (1)) hx hb d_law_1095 (by decide) ?_
  refine nw_iadd (v := nI (i + 1)) hx hb d_law_1096 (nI_add _ _) ?_
  refine lb_sc hx hb hX hbl hS (j := i + 1) (by omega) hL (v := xs (i + 1)) rfl d_law_1097 ?_
  refine lv_aload_n hx hb d_law_1098 rfl (lv_at hl 2 rfl) ?_
  refine lv_iload hx hb d_law_1099 (lv_at hl 1 rfl) ?_
  refine lv_iconst (v := nI (2)) hx hb d_law_1101 (by decide) ?_
  refine nw_iadd (v := nI (i + 2)) hx hb d_law_1102 (nI_add _ _) ?_
  refine lb_sc hx hb hX hbl hS (j := i + 2) (by omega) hL (v := xs (i + 2)) rfl d_law_1103 ?_
  refine lv_aload_n hx hb d_law_1104 rfl (lv_at hl 2 rfl) ?_
  refine lv_iload hx hb d_law_1105 (lv_at hl 1 rfl) ?_
  refine lv_iconst (v := nI (3)) hx hb d_law_1107 (by decide) ?_
  refine nw_iadd (v := nI (i + 3)) hx hb d_law_1108 (nI_add _ _) ?_
  refine lb_sc hx hb hX hbl hS (j := i + 3) (by omega) hL (v := xs (i + 3)) rfl d_law_1109 ?_
  refine lv_aload_n hx hb d_law_1110 rfl (lv_at hl 2 rfl) ?_
  refine lv_iload hx hb d_law_1111 (lv_at hl 1 rfl) ?_
  refine lv_iconst (v := nI (4)) hx hb d_law_1113 (by decide) ?_
  refine nw_iadd (v := nI (i + 4)) hx hb d_law_1114 (nI_add _ _) ?_
  refine lb_sc hx hb hX hbl hS (j := i + 4) (by omega) hL (v := xs (i + 4)) rfl d_law_1115 ?_
  refine lv_aload_n hx hb d_law_1116 rfl (lv_at hl 2 rfl) ?_
  refine lv_iload hx hb d_law_1117 (lv_at hl 1 rfl) ?_
  refine lv_iconst (v := nI (5)) hx hb d_law_1119 (by decide) ?_
  refine nw_iadd (v := nI (i + 5)) hx hb d_law_1120 (nI_add _ _) ?_
  refine lb_sc hx hb hX hbl hS (j := i + 5) (by omega) hL (v := xs (i + 5)) rfl d_law_1121 ?_
  refine lb_Mv (own := R_La) (C := R_Mo) (As := [.int (xs (i + 1)), .int (xs (i + 2)), .int (xs (i + 3)), .int (xs (i + 4)), .int (xs (i + 5))]) (rest := []) (n := 5) ⟨hx, hb, hml, hown, hts⟩ K (c_Mo_feed l u _ hl9 (xs (i + 1)) (xs (i + 2)) (xs (i + 3)) (xs (i + 4)) (xs (i + 5)) A hMI) (vx_cwVW 5 hts (gV lm_La_133 im_Mo_feed se_Mo_feed in_Mo kq_Mo_feed) rfl rfl rfl (by decide +kernel) ⟨Nat.le_of_ble_eq_true rfl, Nat.le_of_ble_eq_true rfl⟩) (recMo K.kM hM) hC hM hO hS rfl hl.1 rfl (Nat.le_of_ble_eq_true rfl) d_law_1122 ⟨by show cs + 1 + 1 ≤ 601024; omega, by show sl + 6 + 6 ≤ 7293034; omega⟩ (fun u1 H locs hp hC hM hO hS => ?_)
  rw [← hR9] at hp
  obtain ⟨hMI1, hX1, hb1⟩ := hp
  refine lv_aload_n hx hb d_law_1125 rfl (lv_at hl 4 rfl) ?_
  refine lb_T (own := R_La) (C := R_Mo) (As := []) (rest := []) (n := 0) ⟨hx, hb, hml, hown, hts⟩ K (c_Mo_thrown l u1 _) (cwV0 0 hts lm_La_89 im_Mo_thrown se_Mo_thrown in_Mo kq_Mo_thrown rfl rfl rfl (by decide +kernel) ⟨Nat.le_of_ble_eq_true rfl, Nat.le_of_ble_eq_true rfl⟩) (recMo K.kM hM) hC hM hO hS rfl hl.1 rfl (Nat.le_of_ble_eq_true rfl) d_law_1126 ⟨by show cs + 1 + 1 + 0 ≤ 601024; omega, by show sl + 6 + 6 + 0 ≤ 7293034; omega⟩ (fun r3 u2 H locs hp hC hM hO hS => ?_)
  obtain ⟨hr3, hu2⟩ := hp
  rw [hX1] at hr3
  subst hr3
  rw [hu2] at hM
  refine lv_iload hx hb d_law_1129 (lv_at hl 0 rfl) ?_
  refine lv_icmp_eq (tgt := 1136) hx hb d_law_1131 (by decide) (fun _ => ?_) (fun z => absurd rfl z)
  refine lv_goto (tgt := 1387) hx hb d_law_1136 (by decide) ?_
  exact kk w1 u1 f1 R9.2.2 H locs ls hCI1 hMI1 hC hM hO hS (lv_sub hl [1, 2, 3, 4, 5] rfl)
set_option maxHeartbeats 4000000 in
set_option maxRecDepth 100000 in
theorem lk_end {p : Program} {e : Env} {s : State} {m : MethodId} {below : List Frame} {meth : Method} {c : Code} {l : Launch} (hl9 : l.stackTraces = false) {b L : Nat} {xs : Nat → Int32} (hL : L ≤ 3072) (C0 : lw_At p s m meth c b L xs) {D : va_G} {cI cB cRc cRm cL : ClassId} {adC adM : Nat → Nat} {qo : Nat} (K : LK D cI cB cRc cRm cL adC adM qo s) {i : Nat} (hi : i + 6 ≤ L) {w : St} {u : Mt} {f : Nat → Int64} {A : Ab} (hCI : CI w A) (hMI : MI u A) {H : Heap} {locs : List Loc} {ls : Array Slot} {cs sl : Nat} (hcs : cs + 20 ≤ 601024) (hsl : sl + 200 ≤ 7293034) (hC : va_P D clA (NC cI cB cRc adC w) H) (hM : va_P D clA (NM cI cB cRm adM u) H) (hO : va_P D clA (OC cL qo f) H) (hS : va_S (AL s) s.heap H locs) (hl : lv_has ls 8 [(4, .int (nI (i))), (0, .ref (b)), (1, .ref (adC 0)), (2, .ref (adM 0)), (3, .ref (qo))])
    (kk : ∀ (w : St) (u : Mt) (f : Nat → Int64) (A : Ab) (H : Heap) (locs : List Loc) (ls : Array Slot), CI w A → MI u A → va_P D clA (NC cI cB cRc adC w) H → va_P D clA (NM cI cB cRm adM u) H → va_P D clA (OC cL qo f) H → va_S (AL s) s.heap H locs → lv_has ls 8 [(4, .int (nI (i))), (0, .ref (b)), (1, .ref (adC 0)), (2, .ref (adM 0)), (3, .ref (qo))] → W p l e room_1 s m #[Value.ref b] below meth c H locs (cs + 1 + 1 + 0) (sl + 6 + 6 + 0) (lw_Z below #[Value.ref b] s) (F0 m 1387 ls [])) : W p l e room_1 s m #[Value.ref b] below meth c H locs (cs) (sl) (lw_Z below #[Value.ref b] s) (F0 m 1139 ls []) := by
  obtain ⟨hx, hb, hr, hml, hown, htb, hX, hbl, hlocks, hgv⟩ := C0
  have hown : s.vm.findClass R_La = some m.cls := hown
  have hts : ∀ w ∈ q_La_set :: wA, w.before #[Value.ref b] s = true := fun w hw => htb w (wA_in (by rcases List.mem_cons.mp hw with z | z; rw [z]; exact kq_La_set; exact z))
  refine lv_aload_n hx hb d_law_1139 rfl (lv_at hl 2 rfl) ?_
  refine lv_aload_n hx hb d_law_1140 rfl (lv_at hl 1 rfl) ?_
  refine lv_iload hx hb d_law_1141 (lv_at hl 0 rfl) ?_
  refine lv_iconst (v := nI (1)) hx hb d_law_1143 (by decide) ?_
  refine nw_iadd (v := nI (i + 1)) hx hb d_law_1144 (nI_add _ _) ?_
  refine lb_sc hx hb hX hbl hS (j := i + 1) (by omega) hL (v := xs (i + 1)) rfl d_law_1145 ?_
  refine lv_aload_n hx hb d_law_1146 rfl (lv_at hl 4 rfl) ?_
  obtain ⟨R9, hR9⟩ : ∃ R9, R9 = sp_end (xs (i + 1)) A := ⟨_, rfl⟩
  have h2 : R9.1 ≤ 2 := by rw [hR9]; exact le2_end (xs (i + 1)) A
  refine lb_H (own := R_La) (As := [.ref (adC 0), .int (xs (i + 1)), .ref (qo)]) (rest := []) (n := 3) ⟨hx, hb, hml, hown, hts⟩ K (c_La_end l w f _ hl9 (xs (i + 1)) A hCI) (vx_cwSW 3 hts (gSo lm_La_134 st_La_end in_La kq_La_end) rfl rfl rfl (by decide +kernel) ⟨Nat.le_of_ble_eq_true rfl, Nat.le_of_ble_eq_true rfl⟩) hC hM hO hS rfl hl.1 rfl (Nat.le_of_ble_eq_true rfl) d_law_1147 ⟨by show cs + 1 ≤ 601024; omega, by show sl + 6 ≤ 7293034; omega⟩ (fun r w1 f1 H locs hp hC hM hO hS => ?_)
  rw [← hR9] at hp
  obtain ⟨hCI1, hr1, ha1⟩ := hp
  subst hr1
  refine lv_istore (lv' := [(5, .int (nI (R9.1))), (4, .int (nI (i))), (0, .ref (b)), (1, .ref (adC 0)), (2, .ref (adM 0)), (3, .ref (qo))]) hx hb d_law_1150 hl (by decide) rfl (fun ls hl => ?_)
  refine lv_aload_n hx hb d_law_1152 rfl (lv_at hl 4 rfl) ?_
  refine lv_aload_n hx hb d_law_1153 rfl (lv_at hl 2 rfl) ?_
  refine lv_iload hx hb d_law_1154 (lv_at hl 1 rfl) ?_
  refine lv_iconst (v := nI (1)) hx hb d_law_1156 (by decide) ?_
  refine nw_iadd (v := nI (i + 1)) hx hb d_law_1157 (nI_add _ _) ?_
  refine lb_sc hx hb hX hbl hS (j := i + 1) (by omega) hL (v := xs (i + 1)) rfl d_law_1158 ?_
  refine lb_Mi (own := R_La) (C := R_Mo) (As := [.int (xs (i + 1))]) (rest := []) (n := 1) ⟨hx, hb, hml, hown, hts⟩ K (c_Mo_end l u _ hl9 (xs (i + 1)) A hMI) (vx_cwVW 1 hts (gV lm_La_136 im_Mo_end se_Mo_end in_Mo kq_Mo_end) rfl rfl rfl (by decide +kernel) ⟨Nat.le_of_ble_eq_true rfl, Nat.le_of_ble_eq_true rfl⟩) (recMo K.kM hM) hC hM hO hS rfl hl.1 rfl (Nat.le_of_ble_eq_true rfl) d_law_1159 ⟨by show cs + 1 + 1 ≤ 601024; omega, by show sl + 6 + 6 ≤ 7293034; omega⟩ (fun r2 u1 H locs hp hC hM hO hS => ?_)
  rw [← hR9] at hp
  obtain ⟨hMI1, hX1, hb1⟩ := hp
  refine lv_istore (lv' := [(6, .int (r2)), (5, .int (nI (R9.1))), (4, .int (nI (i))), (0, .ref (b)), (1, .ref (adC 0)), (2, .ref (adM 0)), (3, .ref (qo))]) hx hb d_law_1162 hl (by decide) rfl (fun ls hl => ?_)
  refine lv_aload_n hx hb d_law_1164 rfl (lv_at hl 5 rfl) ?_
  refine lb_T (own := R_La) (C := R_Mo) (As := []) (rest := []) (n := 0) ⟨hx, hb, hml, hown, hts⟩ K (c_Mo_thrown l u1 _) (cwV0 0 hts lm_La_89 im_Mo_thrown se_Mo_thrown in_Mo kq_Mo_thrown rfl rfl rfl (by decide +kernel) ⟨Nat.le_of_ble_eq_true rfl, Nat.le_of_ble_eq_true rfl⟩) (recMo K.kM hM) hC hM hO hS rfl hl.1 rfl (Nat.le_of_ble_eq_true rfl) d_law_1165 ⟨by show cs + 1 + 1 + 0 ≤ 601024; omega, by show sl + 6 + 6 + 0 ≤ 7293034; omega⟩ (fun r3 u2 H locs hp hC hM hO hS => ?_)
  obtain ⟨hr3, hu2⟩ := hp
  rw [hX1] at hr3
  subst hr3
  rw [hu2] at hM
  refine lv_iload hx hb d_law_1168 (lv_at hl 1 rfl) ?_
  refine lv_icmp_eq (tgt := 1175) hx hb d_law_1170 (by decide) (fun _ => ?_) (fun z => absurd rfl z)
  refine lv_iload hx hb d_law_1175 (lv_at hl 1 rfl) ?_
  by_cases h0 : R9.1 = 0
  · refine lv_if_ne (tgt := 1192) hx hb d_law_1177 (by decide) (fun z => absurd (by rw [h0]; exact nI_0) z) (fun _ => ?_)
    have hr2 := hb1 h0
    subst hr2
    refine lv_aload_n hx hb d_law_1180 rfl (lv_at hl 6 rfl) ?_
    refine lv_iconst (v := nI (0)) hx hb d_law_1181 (by decide) ?_
    refine lb_ld hx hb K hO (v := (R9.2.1).toInt64) (ha1 h0) d_law_1182 ?_
    refine lv_iload hx hb d_law_1183 (lv_at hl 0 rfl) ?_
    refine lv_i2l (v := R9.2.1.toInt64) hx hb d_law_1185 rfl ?_
    refine W.lcmp hx hb d_law_1186 ?_
    refine lv_if_eq (tgt := 1192) hx hb d_law_1187 (by decide) (fun _ => ?_) (fun z => absurd ((lg_cmp_eq _ _).mpr rfl) z)
    refine lv_goto (tgt := 1387) hx hb d_law_1192 (by decide) ?_
    exact kk w1 u1 f1 R9.2.2 H locs ls hCI1 hMI1 hC hM hO hS (lv_sub hl [2, 3, 4, 5, 6] rfl)
  · refine lv_if_ne (tgt := 1192) hx hb d_law_1177 (by decide) (fun _ => ?_) (fun z => absurd ((nI_eq (by omega) (by omega)).mp (by rw [nI_0]; exact z)) h0)
    refine lv_goto (tgt := 1387) hx hb d_law_1192 (by decide) ?_
    exact kk w1 u1 f1 R9.2.2 H locs ls hCI1 hMI1 hC hM hO hS (lv_sub hl [2, 3, 4, 5, 6] rfl)
set_option maxHeartbeats 4000000 in
set_option maxRecDepth 100000 in
theorem lk_read {p : Program} {e : Env} {s : State} {m : MethodId} {below : List Frame} {meth : Method} {c : Code} {l : Launch} (hl9 : l.stackTraces = false) {b L : Nat} {xs : Nat → Int32} (hL : L ≤ 3072) (C0 : lw_At p s m meth c b L xs) {D : va_G} {cI cB cRc cRm cL : ClassId} {adC adM : Nat → Nat} {qo : Nat} (K : LK D cI cB cRc cRm cL adC adM qo s) {i : Nat} (hi : i + 6 ≤ L) {w : St} {u : Mt} {f : Nat → Int64} {A : Ab} (hCI : CI w A) (hMI : MI u A) {H : Heap} {locs : List Loc} {ls : Array Slot} {cs sl : Nat} (hcs : cs + 20 ≤ 601024) (hsl : sl + 200 ≤ 7293034) (hC : va_P D clA (NC cI cB cRc adC w) H) (hM : va_P D clA (NM cI cB cRm adM u) H) (hO : va_P D clA (OC cL qo f) H) (hS : va_S (AL s) s.heap H locs) (hl : lv_has ls 8 [(4, .int (nI (i))), (0, .ref (b)), (1, .ref (adC 0)), (2, .ref (adM 0)), (3, .ref (qo))])
    (kk : ∀ (w : St) (u : Mt) (f : Nat → Int64) (A : Ab) (H : Heap) (locs : List Loc) (ls : Array Slot), CI w A → MI u A → va_P D clA (NC cI cB cRc adC w) H → va_P D clA (NM cI cB cRm adM u) H → va_P D clA (OC cL qo f) H → va_S (AL s) s.heap H locs → lv_has ls 8 [(4, .int (nI (i))), (0, .ref (b)), (1, .ref (adC 0)), (2, .ref (adM 0)), (3, .ref (qo))] → W p l e room_1 s m #[Value.ref b] below meth c H locs (cs + 3 + 3 + 0) (sl + 18 + 18 + 0) (lw_Z below #[Value.ref b] s) (F0 m 1387 ls [])) : W p l e room_1 s m #[Value.ref b] below meth c H locs (cs) (sl) (lw_Z below #[Value.ref b] s) (F0 m 1195 ls []) := by
  obtain ⟨hx, hb, hr, hml, hown, htb, hX, hbl, hlocks, hgv⟩ := C0
  have hown : s.vm.findClass R_La = some m.cls := hown
  have hts : ∀ w ∈ q_La_set :: wA, w.before #[Value.ref b] s = true := fun w hw => htb w (wA_in (by rcases List.mem_cons.mp hw with z | z; rw [z]; exact kq_La_set; exact z))
  refine lv_aload_n hx hb d_law_1195 rfl (lv_at hl 2 rfl) ?_
  refine lv_aload_n hx hb d_law_1196 rfl (lv_at hl 1 rfl) ?_
  refine lv_iload hx hb d_law_1197 (lv_at hl 0 rfl) ?_
  refine lv_iconst (v := nI (1)) hx hb d_law_1199 (by decide) ?_
  refine nw_iadd (v := nI (i + 1)) hx hb d_law_1200 (nI_add _ _) ?_
  refine lb_sc hx hb hX hbl hS (j := i + 1) (by omega) hL (v := xs (i + 1)) rfl d_law_1201 ?_
  refine lv_aload_n hx hb d_law_1202 rfl (lv_at hl 1 rfl) ?_
  refine lv_iload hx hb d_law_1203 (lv_at hl 0 rfl) ?_
  refine lv_iconst (v := nI (2)) hx hb d_law_1205 (by decide) ?_
  refine nw_iadd (v := nI (i + 2)) hx hb d_law_1206 (nI_add _ _) ?_
  refine lb_sc hx hb hX hbl hS (j := i + 2) (by omega) hL (v := xs (i + 2)) rfl d_law_1207 ?_
  refine lv_aload_n hx hb d_law_1208 rfl (lv_at hl 4 rfl) ?_
  obtain ⟨R9, hR9⟩ : ∃ R9, R9 = sp_read (xs (i + 1)) (xs (i + 2)) A := ⟨_, rfl⟩
  have h2 : R9.1 ≤ 2 := by rw [hR9]; exact le2_read (xs (i + 1)) (xs (i + 2)) A
  refine lb_H (own := R_La) (As := [.ref (adC 0), .int (xs (i + 1)), .int (xs (i + 2)), .ref (qo)]) (rest := []) (n := 4) ⟨hx, hb, hml, hown, hts⟩ K (c_La_read l w f _ hl9 (xs (i + 1)) (xs (i + 2)) A hCI) (vx_cwSW 4 hts (gSo lm_La_137 st_La_read in_La kq_La_read) rfl rfl rfl (by decide +kernel) ⟨Nat.le_of_ble_eq_true rfl, Nat.le_of_ble_eq_true rfl⟩) hC hM hO hS rfl hl.1 rfl (Nat.le_of_ble_eq_true rfl) d_law_1209 ⟨by show cs + 3 ≤ 601024; omega, by show sl + 18 ≤ 7293034; omega⟩ (fun r w1 f1 H locs hp hC hM hO hS => ?_)
  rw [← hR9] at hp
  obtain ⟨hCI1, hr1, ha1⟩ := hp
  subst hr1
  refine lv_istore (lv' := [(5, .int (nI (R9.1))), (4, .int (nI (i))), (0, .ref (b)), (1, .ref (adC 0)), (2, .ref (adM 0)), (3, .ref (qo))]) hx hb d_law_1212 hl (by decide) rfl (fun ls hl => ?_)
  refine lv_aload_n hx hb d_law_1214 rfl (lv_at hl 4 rfl) ?_
  refine lv_aload_n hx hb d_law_1215 rfl (lv_at hl 2 rfl) ?_
  refine lv_iload hx hb d_law_1216 (lv_at hl 1 rfl) ?_
  refine lv_iconst (v := nI (1)) hx hb d_law_1218 (by decide) ?_
  refine nw_iadd (v := nI (i + 1)) hx hb d_law_1219 (nI_add _ _) ?_
  refine lb_sc hx hb hX hbl hS (j := i + 1) (by omega) hL (v := xs (i + 1)) rfl d_law_1220 ?_
  refine lv_aload_n hx hb d_law_1221 rfl (lv_at hl 2 rfl) ?_
  refine lv_iload hx hb d_law_1222 (lv_at hl 1 rfl) ?_
  refine lv_iconst (v := nI (2)) hx hb d_law_1224 (by decide) ?_
  refine nw_iadd (v := nI (i + 2)) hx hb d_law_1225 (nI_add _ _) ?_
  refine lb_sc hx hb hX hbl hS (j := i + 2) (by omega) hL (v := xs (i + 2)) rfl d_law_1226 ?_
  refine lb_Mi (own := R_La) (C := R_Mo) (As := [.int (xs (i + 1)), .int (xs (i + 2))]) (rest := []) (n := 2) ⟨hx, hb, hml, hown, hts⟩ K (c_Mo_read l u _ hl9 (xs (i + 1)) (xs (i + 2)) A hMI) (vx_cwVW 2 hts (gV lm_La_139 im_Mo_read se_Mo_read in_Mo kq_Mo_read) rfl rfl rfl (by decide +kernel) ⟨Nat.le_of_ble_eq_true rfl, Nat.le_of_ble_eq_true rfl⟩) (recMo K.kM hM) hC hM hO hS rfl hl.1 rfl (Nat.le_of_ble_eq_true rfl) d_law_1227 ⟨by show cs + 3 + 3 ≤ 601024; omega, by show sl + 18 + 18 ≤ 7293034; omega⟩ (fun r2 u1 H locs hp hC hM hO hS => ?_)
  rw [← hR9] at hp
  obtain ⟨hMI1, hX1, hb1⟩ := hp
  refine lv_istore (lv' := [(6, .int (r2)), (5, .int (nI (R9.1))), (4, .int (nI (i))), (0, .ref (b)), (1, .ref (adC 0)), (2, .ref (adM 0)), (3, .ref (qo))]) hx hb d_law_1230 hl (by decide) rfl (fun ls hl => ?_)
  refine lv_aload_n hx hb d_law_1232 rfl (lv_at hl 5 rfl) ?_
  refine lb_T (own := R_La) (C := R_Mo) (As := []) (rest := []) (n := 0) ⟨hx, hb, hml, hown, hts⟩ K (c_Mo_thrown l u1 _) (cwV0 0 hts lm_La_89 im_Mo_thrown se_Mo_thrown in_Mo kq_Mo_thrown rfl rfl rfl (by decide +kernel) ⟨Nat.le_of_ble_eq_true rfl, Nat.le_of_ble_eq_true rfl⟩) (recMo K.kM hM) hC hM hO hS rfl hl.1 rfl (Nat.le_of_ble_eq_true rfl) d_law_1233 ⟨by show cs + 3 + 3 + 0 ≤ 601024; omega, by show sl + 18 + 18 + 0 ≤ 7293034; omega⟩ (fun r3 u2 H locs hp hC hM hO hS => ?_)
  obtain ⟨hr3, hu2⟩ := hp
  rw [hX1] at hr3
  subst hr3
  rw [hu2] at hM
  refine lv_iload hx hb d_law_1236 (lv_at hl 1 rfl) ?_
  refine lv_icmp_eq (tgt := 1243) hx hb d_law_1238 (by decide) (fun _ => ?_) (fun z => absurd rfl z)
  refine lv_iload hx hb d_law_1243 (lv_at hl 1 rfl) ?_
  by_cases h0 : R9.1 = 0
  · refine lv_if_ne (tgt := 1260) hx hb d_law_1245 (by decide) (fun z => absurd (by rw [h0]; exact nI_0) z) (fun _ => ?_)
    have hr2 := hb1 h0
    subst hr2
    refine lv_aload_n hx hb d_law_1248 rfl (lv_at hl 6 rfl) ?_
    refine lv_iconst (v := nI (0)) hx hb d_law_1249 (by decide) ?_
    refine lb_ld hx hb K hO (v := (R9.2.1).toInt64) (ha1 h0) d_law_1250 ?_
    refine lv_iload hx hb d_law_1251 (lv_at hl 0 rfl) ?_
    refine lv_i2l (v := R9.2.1.toInt64) hx hb d_law_1253 rfl ?_
    refine W.lcmp hx hb d_law_1254 ?_
    refine lv_if_eq (tgt := 1260) hx hb d_law_1255 (by decide) (fun _ => ?_) (fun z => absurd ((lg_cmp_eq _ _).mpr rfl) z)
    refine lv_goto (tgt := 1387) hx hb d_law_1260 (by decide) ?_
    exact kk w1 u1 f1 R9.2.2 H locs ls hCI1 hMI1 hC hM hO hS (lv_sub hl [2, 3, 4, 5, 6] rfl)
  · refine lv_if_ne (tgt := 1260) hx hb d_law_1245 (by decide) (fun _ => ?_) (fun z => absurd ((nI_eq (by omega) (by omega)).mp (by rw [nI_0]; exact z)) h0)
    refine lv_goto (tgt := 1387) hx hb d_law_1260 (by decide) ?_
    exact kk w1 u1 f1 R9.2.2 H locs ls hCI1 hMI1 hC hM hO hS (lv_sub hl [2, 3, 4, 5, 6] rfl)
set_option maxHeartbeats 4000000 in
set_option maxRecDepth 100000 in
theorem lk_write {p : Program} {e : Env} {s : State} {m : MethodId} {below : List Frame} {meth : Method} {c : Code} {l : Launch} (hl9 : l.stackTraces = false) {b L : Nat} {xs : Nat → Int32} (hL : L ≤ 3072) (C0 : lw_At p s m meth c b L xs) {D : va_G} {cI cB cRc cRm cL : ClassId} {adC adM : Nat → Nat} {qo : Nat} (K : LK D cI cB cRc cRm cL adC adM qo s) {i : Nat} (hi : i + 6 ≤ L) {w : St} {u : Mt} {f : Nat → Int64} {A : Ab} (hCI : CI w A) (hMI : MI u A) {H : Heap} {locs : List Loc} {ls : Array Slot} {cs sl : Nat} (hcs : cs + 20 ≤ 601024) (hsl : sl + 200 ≤ 7293034) (hC : va_P D clA (NC cI cB cRc adC w) H) (hM : va_P D clA (NM cI cB cRm adM u) H) (hO : va_P D clA (OC cL qo f) H) (hS : va_S (AL s) s.heap H locs) (hl : lv_has ls 8 [(4, .int (nI (i))), (0, .ref (b)), (1, .ref (adC 0)), (2, .ref (adM 0)), (3, .ref (qo))])
    (kk : ∀ (w : St) (u : Mt) (f : Nat → Int64) (A : Ab) (H : Heap) (locs : List Loc) (ls : Array Slot), CI w A → MI u A → va_P D clA (NC cI cB cRc adC w) H → va_P D clA (NM cI cB cRm adM u) H → va_P D clA (OC cL qo f) H → va_S (AL s) s.heap H locs → lv_has ls 8 [(4, .int (nI (i))), (0, .ref (b)), (1, .ref (adC 0)), (2, .ref (adM 0)), (3, .ref (qo))] → W p l e room_1 s m #[Value.ref b] below meth c H locs (cs + 4 + 3 + 0) (sl + 24 + 18 + 0) (lw_Z below #[Value.ref b] s) (F0 m 1387 ls [])) : W p l e room_1 s m #[Value.ref b] below meth c H locs (cs) (sl) (lw_Z below #[Value.ref b] s) (F0 m 1263 ls []) := by
  obtain ⟨hx, hb, hr, hml, hown, htb, hX, hbl, hlocks, hgv⟩ := C0
  have hown : s.vm.findClass R_La = some m.cls := hown
  have hts : ∀ w ∈ q_La_set :: wA, w.before #[Value.ref b] s = true := fun w hw => htb w (wA_in (by rcases List.mem_cons.mp hw with z | z; rw [z]; exact kq_La_set; exact z))
  refine lv_aload_n hx hb d_law_1263 rfl (lv_at hl 2 rfl) ?_
  refine lv_aload_n hx hb d_law_1264 rfl (lv_at hl 1 rfl) ?_
  refine lv_iload hx hb d_law_1265 (lv_at hl 0 rfl) ?_
  refine lv_iconst (v := nI (1)) hx hb d_law_1267 (by decide) ?_
  refine nw_iadd (v := nI (i + 1)) hx hb d_law_1268 (nI_add _ _) ?_
  refine lb_sc hx hb hX hbl hS (j := i + 1) (by omega) hL (v := xs (i + 1)) rfl d_law_1269 ?_
  refine lv_aload_n hx hb d_law_1270 rfl (lv_at hl 1 rfl) ?_
  refine lv_iload hx hb d_law_1271 (lv_at hl 0 rfl) ?_
  refine lv_iconst (v := nI (2)) hx hb d_law_1273 (by decide) ?_
  refine nw_iadd (v := nI (i + 2)) hx hb d_law_1274 (nI_add _ _) ?_
  refine lb_sc hx hb hX hbl hS (j := i + 2) (by omega) hL (v := xs (i + 2)) rfl d_law_1275 ?_
  refine lv_aload_n hx hb d_law_1276 rfl (lv_at hl 4 rfl) ?_
  obtain ⟨R9, hR9⟩ : ∃ R9, R9 = sp_write (xs (i + 1)) (xs (i + 2)) A := ⟨_, rfl⟩
  have h2 : R9.1 ≤ 2 := by rw [hR9]; exact le2_write (xs (i + 1)) (xs (i + 2)) A
  refine lb_H (own := R_La) (As := [.ref (adC 0), .int (xs (i + 1)), .int (xs (i + 2)), .ref (qo)]) (rest := []) (n := 4) ⟨hx, hb, hml, hown, hts⟩ K (c_La_write l w f _ hl9 (xs (i + 1)) (xs (i + 2)) A hCI) (vx_cwSW 4 hts (gSo lm_La_140 st_La_write in_La kq_La_write) rfl rfl rfl (by decide +kernel) ⟨Nat.le_of_ble_eq_true rfl, Nat.le_of_ble_eq_true rfl⟩) hC hM hO hS rfl hl.1 rfl (Nat.le_of_ble_eq_true rfl) d_law_1277 ⟨by show cs + 4 ≤ 601024; omega, by show sl + 24 ≤ 7293034; omega⟩ (fun r w1 f1 H locs hp hC hM hO hS => ?_)
  rw [← hR9] at hp
  obtain ⟨hCI1, hr1, ha1⟩ := hp
  subst hr1
  refine lv_istore (lv' := [(5, .int (nI (R9.1))), (4, .int (nI (i))), (0, .ref (b)), (1, .ref (adC 0)), (2, .ref (adM 0)), (3, .ref (qo))]) hx hb d_law_1280 hl (by decide) rfl (fun ls hl => ?_)
  refine lv_aload_n hx hb d_law_1282 rfl (lv_at hl 4 rfl) ?_
  refine lv_aload_n hx hb d_law_1283 rfl (lv_at hl 2 rfl) ?_
  refine lv_iload hx hb d_law_1284 (lv_at hl 1 rfl) ?_
  refine lv_iconst (v := nI (1)) hx hb d_law_1286 (by decide) ?_
  refine nw_iadd (v := nI (i + 1)) hx hb d_law_1287 (nI_add _ _) ?_
  refine lb_sc hx hb hX hbl hS (j := i + 1) (by omega) hL (v := xs (i + 1)) rfl d_law_1288 ?_
  refine lv_aload_n hx hb d_law_1289 rfl (lv_at hl 2 rfl) ?_
  refine lv_iload hx hb d_law_1290 (lv_at hl 1 rfl) ?_
  refine lv_iconst (v := nI (2)) hx hb d_law_1292 (by decide) ?_
  refine nw_iadd (v := nI (i + 2)) hx hb d_law_1293 (nI_add _ _) ?_
  refine lb_sc hx hb hX hbl hS (j := i + 2) (by omega) hL (v := xs (i + 2)) rfl d_law_1294 ?_
  refine lb_Mi (own := R_La) (C := R_Mo) (As := [.int (xs (i + 1)), .int (xs (i + 2))]) (rest := []) (n := 2) ⟨hx, hb, hml, hown, hts⟩ K (c_Mo_write l u _ hl9 (xs (i + 1)) (xs (i + 2)) A hMI) (vx_cwVW 2 hts (gV lm_La_142 im_Mo_write se_Mo_write in_Mo kq_Mo_write) rfl rfl rfl (by decide +kernel) ⟨Nat.le_of_ble_eq_true rfl, Nat.le_of_ble_eq_true rfl⟩) (recMo K.kM hM) hC hM hO hS rfl hl.1 rfl (Nat.le_of_ble_eq_true rfl) d_law_1295 ⟨by show cs + 4 + 3 ≤ 601024; omega, by show sl + 24 + 18 ≤ 7293034; omega⟩ (fun r2 u1 H locs hp hC hM hO hS => ?_)
  rw [← hR9] at hp
  obtain ⟨hMI1, hX1, hb1⟩ := hp
  refine lv_istore (lv' := [(6, .int (r2)), (5, .int (nI (R9.1))), (4, .int (nI (i))), (0, .ref (b)), (1, .ref (adC 0)), (2, .ref (adM 0)), (3, .ref (qo))]) hx hb d_law_1298 hl (by decide) rfl (fun ls hl => ?_)
  refine lv_aload_n hx hb d_law_1300 rfl (lv_at hl 5 rfl) ?_
  refine lb_T (own := R_La) (C := R_Mo) (As := []) (rest := []) (n := 0) ⟨hx, hb, hml, hown, hts⟩ K (c_Mo_thrown l u1 _) (cwV0 0 hts lm_La_89 im_Mo_thrown se_Mo_thrown in_Mo kq_Mo_thrown rfl rfl rfl (by decide +kernel) ⟨Nat.le_of_ble_eq_true rfl, Nat.le_of_ble_eq_true rfl⟩) (recMo K.kM hM) hC hM hO hS rfl hl.1 rfl (Nat.le_of_ble_eq_true rfl) d_law_1301 ⟨by show cs + 4 + 3 + 0 ≤ 601024; omega, by show sl + 24 + 18 + 0 ≤ 7293034; omega⟩ (fun r3 u2 H locs hp hC hM hO hS => ?_)
  obtain ⟨hr3, hu2⟩ := hp
  rw [hX1] at hr3
  subst hr3
  rw [hu2] at hM
  refine lv_iload hx hb d_law_1304 (lv_at hl 1 rfl) ?_
  refine lv_icmp_eq (tgt := 1311) hx hb d_law_1306 (by decide) (fun _ => ?_) (fun z => absurd rfl z)
  refine lv_iload hx hb d_law_1311 (lv_at hl 1 rfl) ?_
  by_cases h0 : R9.1 = 0
  · refine lv_if_ne (tgt := 1328) hx hb d_law_1313 (by decide) (fun z => absurd (by rw [h0]; exact nI_0) z) (fun _ => ?_)
    have hr2 := hb1 h0
    subst hr2
    refine lv_aload_n hx hb d_law_1316 rfl (lv_at hl 6 rfl) ?_
    refine lv_iconst (v := nI (0)) hx hb d_law_1317 (by decide) ?_
    refine lb_ld hx hb K hO (v := (R9.2.1).toInt64) (ha1 h0) d_law_1318 ?_
    refine lv_iload hx hb d_law_1319 (lv_at hl 0 rfl) ?_
    refine lv_i2l (v := R9.2.1.toInt64) hx hb d_law_1321 rfl ?_
    refine W.lcmp hx hb d_law_1322 ?_
    refine lv_if_eq (tgt := 1328) hx hb d_law_1323 (by decide) (fun _ => ?_) (fun z => absurd ((lg_cmp_eq _ _).mpr rfl) z)
    refine lv_goto (tgt := 1387) hx hb d_law_1328 (by decide) ?_
    exact kk w1 u1 f1 R9.2.2 H locs ls hCI1 hMI1 hC hM hO hS (lv_sub hl [2, 3, 4, 5, 6] rfl)
  · refine lv_if_ne (tgt := 1328) hx hb d_law_1313 (by decide) (fun _ => ?_) (fun z => absurd ((nI_eq (by omega) (by omega)).mp (by rw [nI_0]; exact z)) h0)
    refine lv_goto (tgt := 1387) hx hb d_law_1328 (by decide) ?_
    exact kk w1 u1 f1 R9.2.2 H locs ls hCI1 hMI1 hC hM hO hS (lv_sub hl [2, 3, 4, 5, 6] rfl)
set_option maxHeartbeats 4000000 in
set_option maxRecDepth 100000 in
theorem lk_octet {p : Program} {e : Env} {s : State} {m : MethodId} {below : List Frame} {meth : Method} {c : Code} {l : Launch} (hl9 : l.stackTraces = false) {b L : Nat} {xs : Nat → Int32} (hL : L ≤ 3072) (C0 : lw_At p s m meth c b L xs) {D : va_G} {cI cB cRc cRm cL : ClassId} {adC adM : Nat → Nat} {qo : Nat} (K : LK D cI cB cRc cRm cL adC adM qo s) {i : Nat} (hi : i + 6 ≤ L) {w : St} {u : Mt} {f : Nat → Int64} {A : Ab} (hCI : CI w A) (hMI : MI u A) {H : Heap} {locs : List Loc} {ls : Array Slot} {cs sl : Nat} (hcs : cs + 20 ≤ 601024) (hsl : sl + 200 ≤ 7293034) (hC : va_P D clA (NC cI cB cRc adC w) H) (hM : va_P D clA (NM cI cB cRm adM u) H) (hO : va_P D clA (OC cL qo f) H) (hS : va_S (AL s) s.heap H locs) (hl : lv_has ls 8 [(4, .int (nI (i))), (0, .ref (b)), (1, .ref (adC 0)), (2, .ref (adM 0)), (3, .ref (qo))])
    (kk : ∀ (w : St) (u : Mt) (f : Nat → Int64) (A : Ab) (H : Heap) (locs : List Loc) (ls : Array Slot), CI w A → MI u A → va_P D clA (NC cI cB cRc adC w) H → va_P D clA (NM cI cB cRm adM u) H → va_P D clA (OC cL qo f) H → va_S (AL s) s.heap H locs → lv_has ls 8 [(4, .int (nI (i))), (0, .ref (b)), (1, .ref (adC 0)), (2, .ref (adM 0)), (3, .ref (qo))] → W p l e room_1 s m #[Value.ref b] below meth c H locs (cs + 1 + 1 + 0) (sl + 6 + 6 + 0) (lw_Z below #[Value.ref b] s) (F0 m 1387 ls [])) : W p l e room_1 s m #[Value.ref b] below meth c H locs (cs) (sl) (lw_Z below #[Value.ref b] s) (F0 m 1331 ls []) := by
  obtain ⟨hx, hb, hr, hml, hown, htb, hX, hbl, hlocks, hgv⟩ := C0
  have hown : s.vm.findClass R_La = some m.cls := hown
  have hts : ∀ w ∈ q_La_set :: wA, w.before #[Value.ref b] s = true := fun w hw => htb w (wA_in (by rcases List.mem_cons.mp hw with z | z; rw [z]; exact kq_La_set; exact z))
  refine lv_aload_n hx hb d_law_1331 rfl (lv_at hl 2 rfl) ?_
  refine lv_aload_n hx hb d_law_1332 rfl (lv_at hl 1 rfl) ?_
  refine lv_iload hx hb d_law_1333 (lv_at hl 0 rfl) ?_
  refine lv_iconst (v := nI (1)) hx hb d_law_1335 (by decide) ?_
  refine nw_iadd (v := nI (i + 1)) hx hb d_law_1336 (nI_add _ _) ?_
  refine lb_sc hx hb hX hbl hS (j := i + 1) (by omega) hL (v := xs (i + 1)) rfl d_law_1337 ?_
  refine lv_aload_n hx hb d_law_1338 rfl (lv_at hl 4 rfl) ?_
  obtain ⟨R9, hR9⟩ : ∃ R9, R9 = sp_octet (xs (i + 1)) A := ⟨_, rfl⟩
  have h2 : R9.1 ≤ 2 := by rw [hR9]; exact le2_octet (xs (i + 1)) A
  refine lb_H (own := R_La) (As := [.ref (adC 0), .int (xs (i + 1)), .ref (qo)]) (rest := []) (n := 3) ⟨hx, hb, hml, hown, hts⟩ K (c_La_octet l w f _ hl9 (xs (i + 1)) A hCI) (vx_cwSW 3 hts (gSo lm_La_143 st_La_octet in_La kq_La_octet) rfl rfl rfl (by decide +kernel) ⟨Nat.le_of_ble_eq_true rfl, Nat.le_of_ble_eq_true rfl⟩) hC hM hO hS rfl hl.1 rfl (Nat.le_of_ble_eq_true rfl) d_law_1339 ⟨by show cs + 1 ≤ 601024; omega, by show sl + 6 ≤ 7293034; omega⟩ (fun r w1 f1 H locs hp hC hM hO hS => ?_)
  rw [← hR9] at hp
  obtain ⟨hCI1, hr1, ha1⟩ := hp
  subst hr1
  refine lv_istore (lv' := [(5, .int (nI (R9.1))), (4, .int (nI (i))), (0, .ref (b)), (1, .ref (adC 0)), (2, .ref (adM 0)), (3, .ref (qo))]) hx hb d_law_1342 hl (by decide) rfl (fun ls hl => ?_)
  refine lv_aload_n hx hb d_law_1344 rfl (lv_at hl 4 rfl) ?_
  refine lv_aload_n hx hb d_law_1345 rfl (lv_at hl 2 rfl) ?_
  refine lv_iload hx hb d_law_1346 (lv_at hl 1 rfl) ?_
  refine lv_iconst (v := nI (1)) hx hb d_law_1348 (by decide) ?_
  refine nw_iadd (v := nI (i + 1)) hx hb d_law_1349 (nI_add _ _) ?_
  refine lb_sc hx hb hX hbl hS (j := i + 1) (by omega) hL (v := xs (i + 1)) rfl d_law_1350 ?_
  refine lb_Mi (own := R_La) (C := R_Mo) (As := [.int (xs (i + 1))]) (rest := []) (n := 1) ⟨hx, hb, hml, hown, hts⟩ K (c_Mo_octet l u _ hl9 (xs (i + 1)) A hMI) (vx_cwVW 1 hts (gV lm_La_145 im_Mo_octet se_Mo_octet in_Mo kq_Mo_octet) rfl rfl rfl (by decide +kernel) ⟨Nat.le_of_ble_eq_true rfl, Nat.le_of_ble_eq_true rfl⟩) (recMo K.kM hM) hC hM hO hS rfl hl.1 rfl (Nat.le_of_ble_eq_true rfl) d_law_1351 ⟨by show cs + 1 + 1 ≤ 601024; omega, by show sl + 6 + 6 ≤ 7293034; omega⟩ (fun r2 u1 H locs hp hC hM hO hS => ?_)
  rw [← hR9] at hp
  obtain ⟨hMI1, hX1, hb1⟩ := hp
  refine lv_istore (lv' := [(6, .int (r2)), (5, .int (nI (R9.1))), (4, .int (nI (i))), (0, .ref (b)), (1, .ref (adC 0)), (2, .ref (adM 0)), (3, .ref (qo))]) hx hb d_law_1354 hl (by decide) rfl (fun ls hl => ?_)
  refine lv_aload_n hx hb d_law_1356 rfl (lv_at hl 5 rfl) ?_
  refine lb_T (own := R_La) (C := R_Mo) (As := []) (rest := []) (n := 0) ⟨hx, hb, hml, hown, hts⟩ K (c_Mo_thrown l u1 _) (cwV0 0 hts lm_La_89 im_Mo_thrown se_Mo_thrown in_Mo kq_Mo_thrown rfl rfl rfl (by decide +kernel) ⟨Nat.le_of_ble_eq_true rfl, Nat.le_of_ble_eq_true rfl⟩) (recMo K.kM hM) hC hM hO hS rfl hl.1 rfl (Nat.le_of_ble_eq_true rfl) d_law_1357 ⟨by show cs + 1 + 1 + 0 ≤ 601024; omega, by show sl + 6 + 6 + 0 ≤ 7293034; omega⟩ (fun r3 u2 H locs hp hC hM hO hS => ?_)
  obtain ⟨hr3, hu2⟩ := hp
  rw [hX1] at hr3
  subst hr3
  rw [hu2] at hM
  refine lv_iload hx hb d_law_1360 (lv_at hl 1 rfl) ?_
  refine lv_icmp_eq (tgt := 1367) hx hb d_law_1362 (by decide) (fun _ => ?_) (fun z => absurd rfl z)
  refine lv_iload hx hb d_law_1367 (lv_at hl 1 rfl) ?_
  by_cases h0 : R9.1 = 0
  · refine lv_if_ne (tgt := 1384) hx hb d_law_1369 (by decide) (fun z => absurd (by rw [h0]; exact nI_0) z) (fun _ => ?_)
    have hr2 := hb1 h0
    subst hr2
    refine lv_aload_n hx hb d_law_1372 rfl (lv_at hl 6 rfl) ?_
    refine lv_iconst (v := nI (0)) hx hb d_law_1373 (by decide) ?_
    refine lb_ld hx hb K hO (v := (R9.2.1).toInt64) (ha1 h0) d_law_1374 ?_
    refine lv_iload hx hb d_law_1375 (lv_at hl 0 rfl) ?_
    refine lv_i2l (v := R9.2.1.toInt64) hx hb d_law_1377 rfl ?_
    refine W.lcmp hx hb d_law_1378 ?_
    refine lv_if_eq (tgt := 1384) hx hb d_law_1379 (by decide) (fun _ => ?_) (fun z => absurd ((lg_cmp_eq _ _).mpr rfl) z)
    refine lv_goto (tgt := 1387) hx hb d_law_1384 (by decide) ?_
    exact kk w1 u1 f1 R9.2.2 H locs ls hCI1 hMI1 hC hM hO hS (lv_sub hl [2, 3, 4, 5, 6] rfl)
  · refine lv_if_ne (tgt := 1384) hx hb d_law_1369 (by decide) (fun _ => ?_) (fun z => absurd ((nI_eq (by omega) (by omega)).mp (by rw [nI_0]; exact z)) h0)
    refine lv_goto (tgt := 1387) hx hb d_law_1384 (by decide) ?_
    exact kk w1 u1 f1 R9.2.2 H locs ls hCI1 hMI1 hC hM hO hS (lv_sub hl [2, 3, 4, 5, 6] rfl)

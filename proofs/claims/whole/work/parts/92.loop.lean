/-! THE LAW'S LOOP (rows laid by wip/whole/gen/c_la4.py) -/
theorem nI_and31 (n : Nat) : nI n &&& nI 31 = nI (n % 32) := by
  apply wN_inj
  rw [wN_nI]
  show (BitVec.ofNat 32 n &&& 31#32).toNat = _
  rw [BitVec.toNat_and, BitVec.toNat_ofNat]
  show (n % 4294967296) &&& (2 ^ 5 - 1) = _
  rw [Nat.and_two_pow_sub_one_eq_mod]
  omega
theorem and31 (x : Int32) : ∃ k, k < 32 ∧ x &&& nI 31 = nI k := ⟨wN x % 32, Nat.mod_lt _ (by decide), by
  have h := nI_and31 (wN x)
  rw [nI_wN] at h
  exact h⟩
set_option maxHeartbeats 4000000 in
set_option maxRecDepth 100000 in
theorem law_loop {p : Program} {e : Env} {s : State} {m : MethodId} {below : List Frame} {meth : Method} {c : Code} {l : Launch} (hl9 : l.stackTraces = false) {b L : Nat} {xs : Nat → Int32} (hL : L ≤ 3072) (C0 : lw_At p s m meth c b L xs) {D : va_G} {cI cB cRc cRm cL : ClassId} {adC adM : Nat → Nat} {qo : Nat} (K : LK D cI cB cRc cRm cL adC adM qo s) : ∀ (n t : Nat) (w : St) (u : Mt) (f : Nat → Int64) (A : Ab) (H : Heap) (locs : List Loc) (ls : Array Slot), t + n = 513 → CI w A → MI u A → va_P D clA (NC cI cB cRc adC w) H → va_P D clA (NM cI cB cRm adM u) H → va_P D clA (OC cL qo f) H → va_S (AL s) s.heap H locs → lv_has ls 8 [(4, .int (nI (6 * t))), (0, .ref (b)), (1, .ref (adC 0)), (2, .ref (adM 0)), (3, .ref (qo))] → W p l e room_1 s m #[Value.ref b] below meth c H locs (100 + 12 * t) (400000 + 72 * t) (lw_Z below #[Value.ref b] s) (F0 m 23 ls []) := by
  have C1 := C0
  obtain ⟨hx, hb, hr, hml, hown, htb, hX, hbl, hlocks, hgv⟩ := C0
  intro n
  induction n with
  | zero =>
    intro t w u f A H locs ls ht hCI hMI hC hM hO hS hl
    refine lv_iload hx hb d_law_23 (lv_at hl 0 rfl) ?_
    refine lv_aload_n hx hb d_law_25 rfl (lv_at hl 1 rfl) ?_
    refine va_slen hx hb hX hbl (Nat.not_le.mpr hbl) hS d_law_26 ?_
    refine W.eq (g2 := F0 m 27 ls [.int (nI (L)), .int (nI (6 * t))]) rfl ?_
    refine lv_bipush (v := nI (6)) hx hb d_law_27 (by decide) ?_
    have hc : ¬ 6 * t + 6 ≤ L := by omega
    refine nw_isub (v := iZ ((L : Int) - ((6 : Nat) : Int))) hx hb d_law_29 (nI_sZ _ _) ?_
    refine lv_icmp_gt (tgt := 1393) hx hb d_law_30 (by decide) (fun _ => ?_) (fun z => absurd (by rw [nI_iZ, iZ_lt (by omega) (by omega) (by omega) (by omega)]; omega) z)
    refine lv_iconst (v := 1) hx hb d_law_1393 (by decide) ?_
    refine va_forget hS.2.2 ?_
    refine W.widen (k := 601024) (n := 7293034) (by omega) (by omega) ?_
    exact lw_ret hx hb hr hlocks d_law_1394
  | succ n ih =>
    intro t w u f A H locs ls ht hCI hMI hC hM hO hS hl
    refine lv_iload hx hb d_law_23 (lv_at hl 0 rfl) ?_
    refine lv_aload_n hx hb d_law_25 rfl (lv_at hl 1 rfl) ?_
    refine va_slen hx hb hX hbl (Nat.not_le.mpr hbl) hS d_law_26 ?_
    refine W.eq (g2 := F0 m 27 ls [.int (nI (L)), .int (nI (6 * t))]) rfl ?_
    refine lv_bipush (v := nI (6)) hx hb d_law_27 (by decide) ?_
    by_cases hc : 6 * t + 6 ≤ L
    · skip
      refine nw_isub (v := nI (L - 6)) hx hb d_law_29 (pk_sub (by omega)) ?_
      refine lv_icmp_gt (tgt := 1393) hx hb d_law_30 (by decide) (fun z => absurd ((nI_ltI (by omega) (by omega)).mp z) (by omega)) (fun _ => ?_)
      have tl : ∀ (w : St) (u : Mt) (f : Nat → Int64) (A : Ab) (H : Heap) (locs : List Loc) (ls : Array Slot) (cs sl : Nat), cs ≤ 100 + 12 * (t + 1) → sl ≤ 400000 + 72 * (t + 1) → CI w A → MI u A → va_P D clA (NC cI cB cRc adC w) H → va_P D clA (NM cI cB cRm adM u) H → va_P D clA (OC cL qo f) H → va_S (AL s) s.heap H locs → lv_has ls 8 [(4, .int (nI (6 * t))), (0, .ref (b)), (1, .ref (adC 0)), (2, .ref (adM 0)), (3, .ref (qo))] → W p l e room_1 s m #[Value.ref b] below meth c H locs (cs) (sl) (lw_Z below #[Value.ref b] s) (F0 m 1387 ls []) := by
        intro w u f A H locs ls cs sl h1 h2 hCI hMI hC hM hO hS hl
        refine W.widen (k := 100 + 12 * (t + 1)) (n := 400000 + 72 * (t + 1)) h1 h2 ?_
        refine lv_iinc (v := nI (6 * (t + 1))) (lv' := [(4, .int (nI (6 * (t + 1)))), (0, .ref (b)), (1, .ref (adC 0)), (2, .ref (adM 0)), (3, .ref (qo))]) hx hb d_law_1387 hl (k := 0) rfl (nI_add (6 * t) 6) (by decide) rfl (fun ls hl => ?_)
        refine lv_goto (tgt := 23) hx hb d_law_1390 (by decide) ?_
        exact ih (t + 1) w u f A H locs ls (by omega) hCI hMI hC hM hO hS (lv_sub hl [0, 1, 2, 3, 4] rfl)
      refine lv_aload_n hx hb d_law_33 rfl (lv_at hl 1 rfl) ?_
      refine lv_iload hx hb d_law_34 (lv_at hl 0 rfl) ?_
      refine lb_sc hx hb hX hbl hS (j := 6 * t) (by omega) hL (v := xs (6 * t)) rfl d_law_36 ?_
      refine lv_bipush (v := nI (31)) hx hb d_law_37 (by decide) ?_
      obtain ⟨k9, hk9, hk⟩ := and31 (xs (6 * t))
      refine nw_iand (v := nI k9) hx hb d_law_39 hk ?_
      rcases Nat.lt_or_ge k9 17 with h17 | h17
      · skip
        have hor : k9 = 0 ∨ k9 = 1 ∨ k9 = 2 ∨ k9 = 3 ∨ k9 = 4 ∨ k9 = 5 ∨ k9 = 6 ∨ k9 = 7 ∨ k9 = 8 ∨ k9 = 9 ∨ k9 = 10 ∨ k9 = 11 ∨ k9 = 12 ∨ k9 = 13 ∨ k9 = 14 ∨ k9 = 15 ∨ k9 = 16 := by omega
        rcases hor with rfl | rfl | rfl | rfl | rfl | rfl | rfl | rfl | rfl | rfl | rfl | rfl | rfl | rfl | rfl | rfl | rfl
        · refine lv_tableIn (off := 84) (tgt := 124) hx hb d_law_40 (by decide) (by decide) rfl (by decide) ?_
          exact lk_set hl9 hL C1 K (i := 6 * t) (by omega) hCI hMI (by omega) (by omega) hC hM hO hS (lv_sub hl [0, 1, 2, 3, 4] rfl) (fun w u f A H locs ls h1 h2 h3 h4 h5 h6 h7 => tl w u f A H locs ls _ _ (by omega) (by omega) h1 h2 h3 h4 h5 h6 h7)
        · refine lv_tableIn (off := 184) (tgt := 224) hx hb d_law_40 (by decide) (by decide) rfl (by decide) ?_
          exact lk_copy hl9 hL C1 K (i := 6 * t) (by omega) hCI hMI (by omega) (by omega) hC hM hO hS (lv_sub hl [0, 1, 2, 3, 4] rfl) (fun w u f A H locs ls h1 h2 h3 h4 h5 h6 h7 => tl w u f A H locs ls _ _ (by omega) (by omega) h1 h2 h3 h4 h5 h6 h7)
        · refine lv_tableIn (off := 252) (tgt := 292) hx hb d_law_40 (by decide) (by decide) rfl (by decide) ?_
          exact lk_shift hl9 hL C1 K (i := 6 * t) (by omega) hCI hMI (by omega) (by omega) hC hM hO hS (lv_sub hl [0, 1, 2, 3, 4] rfl) (fun w u f A H locs ls h1 h2 h3 h4 h5 h6 h7 => tl w u f A H locs ls _ _ (by omega) (by omega) h1 h2 h3 h4 h5 h6 h7)
        · refine lv_tableIn (off := 332) (tgt := 372) hx hb d_law_40 (by decide) (by decide) rfl (by decide) ?_
          exact lk_add hl9 hL C1 K (i := 6 * t) (by omega) hCI hMI (by omega) (by omega) hC hM hO hS (lv_sub hl [0, 1, 2, 3, 4] rfl) (fun w u f A H locs ls h1 h2 h3 h4 h5 h6 h7 => tl w u f A H locs ls _ _ (by omega) (by omega) h1 h2 h3 h4 h5 h6 h7)
        · refine lv_tableIn (off := 412) (tgt := 452) hx hb d_law_40 (by decide) (by decide) rfl (by decide) ?_
          exact lk_subtract hl9 hL C1 K (i := 6 * t) (by omega) hCI hMI (by omega) (by omega) hC hM hO hS (lv_sub hl [0, 1, 2, 3, 4] rfl) (fun w u f A H locs ls h1 h2 h3 h4 h5 h6 h7 => tl w u f A H locs ls _ _ (by omega) (by omega) h1 h2 h3 h4 h5 h6 h7)
        · refine lv_tableIn (off := 492) (tgt := 532) hx hb d_law_40 (by decide) (by decide) rfl (by decide) ?_
          exact lk_times hl9 hL C1 K (i := 6 * t) (by omega) hCI hMI (by omega) (by omega) hC hM hO hS (lv_sub hl [0, 1, 2, 3, 4] rfl) (fun w u f A H locs ls h1 h2 h3 h4 h5 h6 h7 => tl w u f A H locs ls _ _ (by omega) (by omega) h1 h2 h3 h4 h5 h6 h7)
        · refine lv_tableIn (off := 572) (tgt := 612) hx hb d_law_40 (by decide) (by decide) rfl (by decide) ?_
          exact lk_divide hl9 hL C1 K (i := 6 * t) (by omega) hCI hMI (by omega) (by omega) hC hM hO hS (lv_sub hl [0, 1, 2, 3, 4] rfl) (fun w u f A H locs ls h1 h2 h3 h4 h5 h6 h7 => tl w u f A H locs ls _ _ (by omega) (by omega) h1 h2 h3 h4 h5 h6 h7)
        · refine lv_tableIn (off := 664) (tgt := 704) hx hb d_law_40 (by decide) (by decide) rfl (by decide) ?_
          exact lk_power hl9 hL C1 K (i := 6 * t) (by omega) hCI hMI (by omega) (by omega) hC hM hO hS (lv_sub hl [0, 1, 2, 3, 4] rfl) (fun w u f A H locs ls h1 h2 h3 h4 h5 h6 h7 => tl w u f A H locs ls _ _ (by omega) (by omega) h1 h2 h3 h4 h5 h6 h7)
        · refine lv_tableIn (off := 744) (tgt := 784) hx hb d_law_40 (by decide) (by decide) rfl (by decide) ?_
          exact lk_root hl9 hL C1 K (i := 6 * t) (by omega) hCI hMI (by omega) (by omega) hC hM hO hS (lv_sub hl [0, 1, 2, 3, 4] rfl) (fun w u f A H locs ls h1 h2 h3 h4 h5 h6 h7 => tl w u f A H locs ls _ _ (by omega) (by omega) h1 h2 h3 h4 h5 h6 h7)
        · refine lv_tableIn (off := 824) (tgt := 864) hx hb d_law_40 (by decide) (by decide) rfl (by decide) ?_
          exact lk_compare hl9 hL C1 K (i := 6 * t) (by omega) hCI hMI (by omega) (by omega) hC hM hO hS (lv_sub hl [0, 1, 2, 3, 4] rfl) (fun w u f A H locs ls h1 h2 h3 h4 h5 h6 h7 => tl w u f A H locs ls _ _ (by omega) (by omega) h1 h2 h3 h4 h5 h6 h7)
        · refine lv_tableIn (off := 892) (tgt := 932) hx hb d_law_40 (by decide) (by decide) rfl (by decide) ?_
          exact lk_bits hl9 hL C1 K (i := 6 * t) (by omega) hCI hMI (by omega) (by omega) hC hM hO hS (lv_sub hl [0, 1, 2, 3, 4] rfl) (fun w u f A H locs ls h1 h2 h3 h4 h5 h6 h7 => tl w u f A H locs ls _ _ (by omega) (by omega) h1 h2 h3 h4 h5 h6 h7)
        · refine lv_tableIn (off := 948) (tgt := 988) hx hb d_law_40 (by decide) (by decide) rfl (by decide) ?_
          exact lk_word hl9 hL C1 K (i := 6 * t) (by omega) hCI hMI (by omega) (by omega) hC hM hO hS (lv_sub hl [0, 1, 2, 3, 4] rfl) (fun w u f A H locs ls h1 h2 h3 h4 h5 h6 h7 => tl w u f A H locs ls _ _ (by omega) (by omega) h1 h2 h3 h4 h5 h6 h7)
        · refine lv_tableIn (off := 1015) (tgt := 1055) hx hb d_law_40 (by decide) (by decide) rfl (by decide) ?_
          exact lk_feed hl9 hL C1 K (i := 6 * t) (by omega) hCI hMI (by omega) (by omega) hC hM hO hS (lv_sub hl [0, 1, 2, 3, 4] rfl) (fun w u f A H locs ls h1 h2 h3 h4 h5 h6 h7 => tl w u f A H locs ls _ _ (by omega) (by omega) h1 h2 h3 h4 h5 h6 h7)
        · refine lv_tableIn (off := 1099) (tgt := 1139) hx hb d_law_40 (by decide) (by decide) rfl (by decide) ?_
          exact lk_end hl9 hL C1 K (i := 6 * t) (by omega) hCI hMI (by omega) (by omega) hC hM hO hS (lv_sub hl [0, 1, 2, 3, 4] rfl) (fun w u f A H locs ls h1 h2 h3 h4 h5 h6 h7 => tl w u f A H locs ls _ _ (by omega) (by omega) h1 h2 h3 h4 h5 h6 h7)
        · refine lv_tableIn (off := 1155) (tgt := 1195) hx hb d_law_40 (by decide) (by decide) rfl (by decide) ?_
          exact lk_read hl9 hL C1 K (i := 6 * t) (by omega) hCI hMI (by omega) (by omega) hC hM hO hS (lv_sub hl [0, 1, 2, 3, 4] rfl) (fun w u f A H locs ls h1 h2 h3 h4 h5 h6 h7 => tl w u f A H locs ls _ _ (by omega) (by omega) h1 h2 h3 h4 h5 h6 h7)
        · refine lv_tableIn (off := 1223) (tgt := 1263) hx hb d_law_40 (by decide) (by decide) rfl (by decide) ?_
          exact lk_write hl9 hL C1 K (i := 6 * t) (by omega) hCI hMI (by omega) (by omega) hC hM hO hS (lv_sub hl [0, 1, 2, 3, 4] rfl) (fun w u f A H locs ls h1 h2 h3 h4 h5 h6 h7 => tl w u f A H locs ls _ _ (by omega) (by omega) h1 h2 h3 h4 h5 h6 h7)
        · refine lv_tableIn (off := 1291) (tgt := 1331) hx hb d_law_40 (by decide) (by decide) rfl (by decide) ?_
          exact lk_octet hl9 hL C1 K (i := 6 * t) (by omega) hCI hMI (by omega) (by omega) hC hM hO hS (lv_sub hl [0, 1, 2, 3, 4] rfl) (fun w u f A H locs ls h1 h2 h3 h4 h5 h6 h7 => tl w u f A H locs ls _ _ (by omega) (by omega) h1 h2 h3 h4 h5 h6 h7)
      · refine lv_tableOut (tgt := 1387) hx hb d_law_40 (Or.inr (by rw [nI_iZ, iZ_toInt (by omega) (by omega)]; omega)) (by decide) ?_
        exact tl w u f A H locs ls _ _ (by omega) (by omega) hCI hMI hC hM hO hS (lv_sub hl [0, 1, 2, 3, 4] rfl)
    · skip
      refine nw_isub (v := iZ ((L : Int) - ((6 : Nat) : Int))) hx hb d_law_29 (nI_sZ _ _) ?_
      refine lv_icmp_gt (tgt := 1393) hx hb d_law_30 (by decide) (fun _ => ?_) (fun z => absurd (by rw [nI_iZ, iZ_lt (by omega) (by omega) (by omega) (by omega)]; omega) z)
      refine lv_iconst (v := 1) hx hb d_law_1393 (by decide) ?_
      refine va_forget hS.2.2 ?_
      refine W.widen (k := 601024) (n := 7293034) (by omega) (by omega) ?_
      exact lw_ret hx hb hr hlocks d_law_1394

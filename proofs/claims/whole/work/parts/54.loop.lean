theorem th_and31 (x : Int32) : ∃ j, j < 32 ∧ x &&& nI 31 = nI j := by
  have e : x = nI x.toBitVec.toNat := by
    apply Int32.toBitVec_inj.1
    show x.toBitVec = BitVec.ofNat 32 x.toBitVec.toNat
    simp
  refine ⟨x.toBitVec.toNat % 2 ^ 5, Nat.mod_lt _ (by decide), ?_⟩
  rw [← pk_andN (m := nI 31) x.toBitVec.isLt 5 (by decide), ← e]
theorem th_exit {i L : Nat} (hi : i ≤ 2565) (hL : L ≤ 2560) (h : ¬ nI i > nI L - nI 5) : i + 5 ≤ L := by
  rcases Nat.lt_or_ge L 5 with hl | hl
  · refine absurd ?_ h
    show nI L - nI 5 < nI i
    rw [Int32.lt_iff_toInt_lt, nI_toInt (by omega)]
    have h1 : (nI L - nI 5).toInt < 0 := by
      rcases (show L = 0 ∨ L = 1 ∨ L = 2 ∨ L = 3 ∨ L = 4 by omega) with rfl | rfl | rfl | rfl | rfl <;> decide
    omega
  · rw [show nI L - nI 5 = nI (L - 5) from pk_sub hl] at h
    have h2 : ¬ nI (L - 5) < nI i := h
    rw [Int32.lt_iff_toInt_lt, nI_toInt (by omega), nI_toInt (by omega)] at h2
    omega
set_option maxRecDepth 100000 in
set_option maxHeartbeats 1600000 in
theorem law_loop {p : Program} {e : Env} {s : State} {m : MethodId} {below : List Frame} {meth : Method} {c : Code} (l : Launch) (hl0 : l.stackTraces = false) (Y : th_Y) {b L : Nat} {xs : Nat → Int32} (hL : L ≤ 2560) (C0 : lw_At p s m meth c b L xs) (hKN : th_K Y s) (hts : ∀ w ∈ th_G, w.before #[Value.ref b] s = true) (hT : th_T (fun q : Nat => s.heap.size ≤ q) s) (hnc : th_nc s) (g o oo : Nat) : ∀ (n i k : Nat), L + 5 - i < n → i = 5 * k → i ≤ L + 4 → ∀ (S : th_S) (H : Heap) (locs : List Loc) (ls : Array Slot), th_LI Y s.heap.size g o oo S H → va_S (fun q : Nat => s.heap.size ≤ q) s.heap H locs → lv_has ls 7 [(0, .ref b), (1, .ref g), (2, .ref o), (3, .ref oo), (4, .int (nI i))] → W p l e room_1 s m #[Value.ref b] below meth c H locs (41 + 8 * k) (1500 + 400 * k) (lw_Z below #[Value.ref b] s) (F0 m 23 ls []) := by
  obtain ⟨hx, hb, hr, hml, hown, hts9, hX, hbl, hlk, hgv⟩ := id C0
  have hbA : ¬ (fun q : Nat => s.heap.size ≤ q) b := Nat.not_le.mpr hbl
  intro n
  induction n with
  | zero => intro i k h; omega
  | succ n ih =>
    intro i k hn hik hiL S H locs ls hI hS hl
    refine lv_iload hx hb dL_law_23 (lv_at hl 4 rfl) ?_
    refine lv_aload_n hx hb dL_law_25 rfl (lv_at hl 0 rfl) ?_
    refine va_slen hx hb hX hbl hbA hS dL_law_26 ?_
    refine lv_iconst (v := nI 5) hx hb dL_law_27 (by decide) ?_
    refine lv_isub hx hb dL_law_28 ?_
    refine lv_icmp_gt (tgt := 1955) hx hb dL_law_29 (by decide) (fun hc => ?_) (fun hc => ?_)
    · refine va_forget hS.2.2 ?_
      refine W.widen (k := 601024) (n := 7293034) (by omega) (by omega) ?_
      refine lv_iconst (v := 1) hx hb dL_law_1955 (by decide) ?_
      exact lw_ret hx hb hr hlk dL_law_1956
    · have hi5 : i + 5 ≤ L := th_exit (by omega) hL hc
      have hnext : th_LC p l e s m below meth c b Y g o oo i (41 + 8 * k) (1500 + 400 * k) := fun S1 H1 locs1 ls1 hI1 hS1 hl1 => by
        refine lv_iinc (v := nI (i + 5)) (lv' := [(4, .int (nI (i + 5))), (0, .ref b), (1, .ref g), (2, .ref o), (3, .ref oo)]) hx hb dL_law_1949 hl1 (k := 4) rfl (nI_add _ 5) (by decide) rfl (fun ls hl => ?_)
        refine lv_goto (tgt := 23) hx hb dL_law_1952 (by decide) ?_
        refine W.widen (k := 41 + 8 * (k + 1)) (n := 1500 + 400 * (k + 1)) (by omega) (by omega) ?_
        exact ih (i + 5) (k + 1) (by omega) (by omega) (by omega) S1 H1 locs1 ls hI1 hS1 (lv_sub hl [1, 2, 3, 4, 0] rfl)
      refine lv_aload_n hx hb dL_law_32 rfl (lv_at hl 0 rfl) ?_
      refine lv_iload hx hb dL_law_33 (lv_at hl 4 rfl) ?_
      refine th_sld hx hb hX hbl hbA hS (j := i) (by omega) hL dL_law_35 ?_
      refine lv_bipush (v := nI 31) hx hb dL_law_36 (by decide) ?_
      refine lv_iand hx hb dL_law_38 ?_
      obtain ⟨j, hj, hje⟩ := th_and31 (xs i)
      refine th_ti hje ?_
      have hcl : 41 + 8 * k + 8 ≤ 601024 := by omega
      have hsl : 1500 + 400 * k + 400 ≤ 7293034 := by omega
      rcases (show j = 0 ∨ j = 1 ∨ j = 2 ∨ j = 3 ∨ j = 4 ∨ j = 5 ∨ j = 6 ∨ j = 7 ∨ j = 8 ∨ j = 9 ∨ j = 10 ∨ j = 11 ∨ j = 12 ∨ j = 13 ∨ j = 14 ∨ j = 15 ∨ j = 16 ∨ j = 17 ∨ j = 18 ∨ j = 19 ∨ j = 20 ∨ j = 21 ∨ j = 22 ∨ j = 23 ∨ j = 24 ∨ j = 25 ∨ j = 26 ∨ j = 27 ∨ j = 28 ∨ j = 29 ∨ j = 30 ∨ j = 31 by omega) with rfl | rfl | rfl | rfl | rfl | rfl | rfl | rfl | rfl | rfl | rfl | rfl | rfl | rfl | rfl | rfl | rfl | rfl | rfl | rfl | rfl | rfl | rfl | rfl | rfl | rfl | rfl | rfl | rfl | rfl | rfl | rfl
      · refine lv_tableIn (tgt := 168) (off := 129) hx hb dL_law_39 (by decide) (by decide) (by decide) (by decide) ?_
        exact law_c0 l hl0 Y hL C0 hKN hts hT hnc g o oo S i hi5 hcl hsl hI hS hl hnext
      · refine lv_tableIn (tgt := 236) (off := 197) hx hb dL_law_39 (by decide) (by decide) (by decide) (by decide) ?_
        exact law_c1 l hl0 Y hL C0 hKN hts hT hnc g o oo S i hi5 hcl hsl hI hS hl hnext
      · refine lv_tableIn (tgt := 316) (off := 277) hx hb dL_law_39 (by decide) (by decide) (by decide) (by decide) ?_
        exact law_c2 l hl0 Y hL C0 hKN hts hT hnc g o oo S i hi5 hcl hsl hI hS hl hnext
      · refine lv_tableIn (tgt := 384) (off := 345) hx hb dL_law_39 (by decide) (by decide) (by decide) (by decide) ?_
        exact law_c3 l hl0 Y hL C0 hKN hts hT hnc g o oo S i hi5 hcl hsl hI hS hl hnext
      · refine lv_tableIn (tgt := 397) (off := 358) hx hb dL_law_39 (by decide) (by decide) (by decide) (by decide) ?_
        exact law_c4 l hl0 Y hL C0 hKN hts hT hnc g o oo S i hi5 hcl hsl hI hS hl hnext
      · refine lv_tableIn (tgt := 453) (off := 414) hx hb dL_law_39 (by decide) (by decide) (by decide) (by decide) ?_
        exact law_c5 l hl0 Y hL C0 hKN hts hT hnc g o oo S i hi5 hcl hsl hI hS hl hnext
      · refine lv_tableIn (tgt := 521) (off := 482) hx hb dL_law_39 (by decide) (by decide) (by decide) (by decide) ?_
        exact law_c6 l hl0 Y hL C0 hKN hts hT hnc g o oo S i hi5 hcl hsl hI hS hl hnext
      · refine lv_tableIn (tgt := 589) (off := 550) hx hb dL_law_39 (by decide) (by decide) (by decide) (by decide) ?_
        exact law_c7 l hl0 Y hL C0 hKN hts hT hnc g o oo S i hi5 hcl hsl hI hS hl hnext
      · refine lv_tableIn (tgt := 657) (off := 618) hx hb dL_law_39 (by decide) (by decide) (by decide) (by decide) ?_
        exact law_c8 l hl0 Y hL C0 hKN hts hT hnc g o oo S i hi5 hcl hsl hI hS hl hnext
      · refine lv_tableIn (tgt := 737) (off := 698) hx hb dL_law_39 (by decide) (by decide) (by decide) (by decide) ?_
        exact law_c9 l hl0 Y hL C0 hKN hts hT hnc g o oo S i hi5 hcl hsl hI hS hl hnext
      · refine lv_tableIn (tgt := 817) (off := 778) hx hb dL_law_39 (by decide) (by decide) (by decide) (by decide) ?_
        exact law_c10 l hl0 Y hL C0 hKN hts hT hnc g o oo S i hi5 hcl hsl hI hS hl hnext
      · refine lv_tableIn (tgt := 873) (off := 834) hx hb dL_law_39 (by decide) (by decide) (by decide) (by decide) ?_
        exact law_c11 l hl0 Y hL C0 hKN hts hT hnc g o oo S i hi5 hcl hsl hI hS hl hnext
      · refine lv_tableIn (tgt := 941) (off := 902) hx hb dL_law_39 (by decide) (by decide) (by decide) (by decide) ?_
        exact law_c12 l hl0 Y hL C0 hKN hts hT hnc g o oo S i hi5 hcl hsl hI hS hl hnext
      · refine lv_tableIn (tgt := 985) (off := 946) hx hb dL_law_39 (by decide) (by decide) (by decide) (by decide) ?_
        exact law_c13 l hl0 Y hL C0 hKN hts hT hnc g o oo S i hi5 hcl hsl hI hS hl hnext
      · refine lv_tableIn (tgt := 998) (off := 959) hx hb dL_law_39 (by decide) (by decide) (by decide) (by decide) ?_
        exact law_c14 l hl0 Y hL C0 hKN hts hT hnc g o oo S i hi5 hcl hsl hI hS hl hnext
      · refine lv_tableIn (tgt := 1054) (off := 1015) hx hb dL_law_39 (by decide) (by decide) (by decide) (by decide) ?_
        exact law_c15 l hl0 Y hL C0 hKN hts hT hnc g o oo S i hi5 hcl hsl hI hS hl hnext
      · refine lv_tableIn (tgt := 1153) (off := 1114) hx hb dL_law_39 (by decide) (by decide) (by decide) (by decide) ?_
        exact law_c16 l hl0 Y hL C0 hKN hts hT hnc g o oo S i hi5 hcl hsl hI hS hl hnext
      · refine lv_tableIn (tgt := 1252) (off := 1213) hx hb dL_law_39 (by decide) (by decide) (by decide) (by decide) ?_
        exact law_c17 l hl0 Y hL C0 hKN hts hT hnc g o oo S i hi5 hcl hsl hI hS hl hnext
      · refine lv_tableIn (tgt := 1327) (off := 1288) hx hb dL_law_39 (by decide) (by decide) (by decide) (by decide) ?_
        exact law_c18 l hl0 Y hL C0 hKN hts hT hnc g o oo S i hi5 hcl hsl hI hS hl hnext
      · refine lv_tableIn (tgt := 1395) (off := 1356) hx hb dL_law_39 (by decide) (by decide) (by decide) (by decide) ?_
        exact law_c19 l hl0 Y hL C0 hKN hts hT hnc g o oo S i hi5 hcl hsl hI hS hl hnext
      · refine lv_tableIn (tgt := 1451) (off := 1412) hx hb dL_law_39 (by decide) (by decide) (by decide) (by decide) ?_
        exact law_c20 l hl0 Y hL C0 hKN hts hT hnc g o oo S i hi5 hcl hsl hI hS hl hnext
      · refine lv_tableIn (tgt := 1507) (off := 1468) hx hb dL_law_39 (by decide) (by decide) (by decide) (by decide) ?_
        exact law_c21 l hl0 Y hL C0 hKN hts hT hnc g o oo S i hi5 hcl hsl hI hS hl hnext
      · refine lv_tableIn (tgt := 1520) (off := 1481) hx hb dL_law_39 (by decide) (by decide) (by decide) (by decide) ?_
        exact law_c22 l hl0 Y hL C0 hKN hts hT hnc g o oo S i hi5 hcl hsl hI hS hl hnext
      · refine lv_tableIn (tgt := 1595) (off := 1556) hx hb dL_law_39 (by decide) (by decide) (by decide) (by decide) ?_
        exact law_c23 l hl0 Y hL C0 hKN hts hT hnc g o oo S i hi5 hcl hsl hI hS hl hnext
      · refine lv_tableIn (tgt := 1670) (off := 1631) hx hb dL_law_39 (by decide) (by decide) (by decide) (by decide) ?_
        exact law_c24 l hl0 Y hL C0 hKN hts hT hnc g o oo S i hi5 hcl hsl hI hS hl hnext
      · refine lv_tableIn (tgt := 1718) (off := 1679) hx hb dL_law_39 (by decide) (by decide) (by decide) (by decide) ?_
        exact law_c25 l hl0 Y hL C0 hKN hts hT hnc g o oo S i hi5 hcl hsl hI hS hl hnext
      · refine lv_tableIn (tgt := 1781) (off := 1742) hx hb dL_law_39 (by decide) (by decide) (by decide) (by decide) ?_
        exact law_c26 l hl0 Y hL C0 hKN hts hT hnc g o oo S i hi5 hcl hsl hI hS hl hnext
      · refine lv_tableIn (tgt := 1837) (off := 1798) hx hb dL_law_39 (by decide) (by decide) (by decide) (by decide) ?_
        exact law_c27 l hl0 Y hL C0 hKN hts hT hnc g o oo S i hi5 hcl hsl hI hS hl hnext
      · refine lv_tableIn (tgt := 1893) (off := 1854) hx hb dL_law_39 (by decide) (by decide) (by decide) (by decide) ?_
        exact law_c28 l hl0 Y hL C0 hKN hts hT hnc g o oo S i hi5 hcl hsl hI hS hl hnext
      · refine lv_tableOut (tgt := 1949) hx hb dL_law_39 (Or.inr (by decide)) (by decide) ?_
        exact W.widen (by omega) (by omega) (hnext S H locs ls hI hS hl)
      · refine lv_tableOut (tgt := 1949) hx hb dL_law_39 (Or.inr (by decide)) (by decide) ?_
        exact W.widen (by omega) (by omega) (hnext S H locs ls hI hS hl)
      · refine lv_tableOut (tgt := 1949) hx hb dL_law_39 (Or.inr (by decide)) (by decide) ?_
        exact W.widen (by omega) (by omega) (hnext S H locs ls hI hS hl)

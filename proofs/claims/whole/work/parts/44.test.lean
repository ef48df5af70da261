set_option maxRecDepth 100000 in
set_option maxHeartbeats 600000 in
theorem c_X6_testLeaf (l : Launch) (Y : th_Y) (H0 : Heap) (ro : Nat → Nat) (hJ : th_gJ ro 16) (S : th_S) (thr stp efr esz etr : Int32) (val siz tre spa pro bes isr key lev kvi ksz krt ala fol cts : Nat → Int32) (hP : va_P Y.1 vwCl [(ro 0, .inr (6, [.int thr, .ref (ro 1), .ref (ro 2), .int (nI S.1), .ref (ro 3), .ref (ro 4), .ref (ro 5), .int (nI S.2.2.2.1), .ref (ro 6), .ref (ro 7), .int stp, .int efr, .int esz, .int etr, .ref (ro 8), .ref (ro 9), .ref (ro 10), .ref (ro 11), .ref (ro 12), .ref (ro 13), .ref (ro 14), .ref (ro 15)])), (ro 1, .inl (Y.2 0, 300, .inl val)), (ro 2, .inl (Y.2 0, 3, .inl siz)), (ro 3, .inl (Y.2 0, 8, .inl tre)), (ro 4, .inl (Y.2 0, 8, .inl spa)), (ro 5, .inl (Y.2 0, 12, .inl pro)), (ro 6, .inl (Y.2 0, 12, .inl bes)), (ro 7, .inl (Y.2 1, 12, .inl isr)), (ro 8, .inl (Y.2 0, 64, .inl key)), (ro 9, .inl (Y.2 0, 64, .inl lev)), (ro 10, .inl (Y.2 0, 4, .inl kvi)), (ro 11, .inl (Y.2 0, 4, .inl ksz)), (ro 12, .inl (Y.2 0, 4, .inl krt)), (ro 13, .inl (Y.2 1, 4, .inl ala)), (ro 14, .inl (Y.2 0, 4, .inl fol)), (ro 15, .inl (Y.2 0, 4, .inl cts))] H0) (hv : th_RIv S val siz pro key kvi ksz krt ala fol cts) (x1 x2 x3 x4 : Int32) : th_M l Y yX6_testLeaf cX6_testLeaf 8 (some .boolean) (th_rm 6 0 0) [.ref (ro 0), .int x1, .int x2, .int x3, .int x4] H0 (fun z => z ∈ [ro 0, ro 1, ro 2, ro 3, ro 4, ro 5, ro 6, ro 7, ro 8, ro 9, ro 10, ro 11, ro 12, ro 13, ro 14, ro 15]) (th_ro Y ro (sp_testLeaf S x1 x2 x3 x4)) := by
  refine th_M.intro (by decide) (Nat.le_of_ble_eq_true rfl) ?_
  intro p e s m args below meth c ls Q hQ C hKN hl hS
  obtain ⟨hx, hb, hr, hml, hown, hts, hlk, hnm⟩ := C
  obtain ⟨hK, hN⟩ := hKN
  have hown : s.vm.findClass RX6 = some m.cls := hown
  have hl : lv_has ls 8 [(0, .ref (ro 0)), (1, .int x1), (2, .int x2), (3, .int x3), (4, .int x4)] := hl
  have hD : va_D (fun z => z ∈ [ro 0, ro 1, ro 2, ro 3, ro 4, ro 5, ro 6, ro 7, ro 8, ro 9, ro 10, ro 11, ro 12, ro 13, ro 14, ro 15]) [(ro 0, .inr (6, [.int thr, .ref (ro 1), .ref (ro 2), .int (nI S.1), .ref (ro 3), .ref (ro 4), .ref (ro 5), .int (nI S.2.2.2.1), .ref (ro 6), .ref (ro 7), .int stp, .int efr, .int esz, .int etr, .ref (ro 8), .ref (ro 9), .ref (ro 10), .ref (ro 11), .ref (ro 12), .ref (ro 13), .ref (ro 14), .ref (ro 15)])), (ro 1, .inl (Y.2 0, 300, .inl val)), (ro 2, .inl (Y.2 0, 3, .inl siz)), (ro 3, .inl (Y.2 0, 8, .inl tre)), (ro 4, .inl (Y.2 0, 8, .inl spa)), (ro 5, .inl (Y.2 0, 12, .inl pro)), (ro 6, .inl (Y.2 0, 12, .inl bes)), (ro 7, .inl (Y.2 1, 12, .inl isr)), (ro 8, .inl (Y.2 0, 64, .inl key)), (ro 9, .inl (Y.2 0, 64, .inl lev)), (ro 10, .inl (Y.2 0, 4, .inl kvi)), (ro 11, .inl (Y.2 0, 4, .inl ksz)), (ro 12, .inl (Y.2 0, 4, .inl krt)), (ro 13, .inl (Y.2 1, 4, .inl ala)), (ro 14, .inl (Y.2 0, 4, .inl fol)), (ro 15, .inl (Y.2 0, 4, .inl cts))] := th_mem (th_gD hJ [0, 1, 2, 3, 4, 5, 6, 7, 8, 9, 10, 11, 12, 13, 14, 15] (fun k9 hk9 => by simp only [List.mem_cons, List.not_mem_nil, or_false] at hk9; omega) th_nd16 rfl)
  have hv1 := hv.1
  have hv12 := hv.2.2.1
  refine lv_aload_n hx hb dX6_testLeaf_0 rfl (lv_at hl 0 rfl) ?_
  refine lv_iload_n hx hb dX6_testLeaf_1 rfl (lv_at hl 1 rfl) ?_
  refine th_callV hx hb hml hown hts ⟨hK, hN⟩ hl hS (hP 0 _ rfl) rfl (rest := []) (c_X6_isView l Y _ ro thr stp efr esz etr S.1 S.2.2.2.1 (hP.sub (ws' := [(ro 0, .inr (6, [.int thr, .ref (ro 1), .ref (ro 2), .int (nI S.1), .ref (ro 3), .ref (ro 4), .ref (ro 5), .int (nI S.2.2.2.1), .ref (ro 6), .ref (ro 7), .int stp, .int efr, .int esz, .int etr, .ref (ro 8), .ref (ro 9), .ref (ro 10), .ref (ro 11), .ref (ro 12), .ref (ro 13), .ref (ro 14), .ref (ro 15)]))]) [0] rfl) (by omega) (by omega) x1) ok_X6_isView tw_3_230 dX6_testLeaf_2 rfl rfl (Nat.le_of_ble_eq_true rfl) ⟨Nat.le_of_ble_eq_true rfl, Nat.le_of_ble_eq_true rfl⟩ ⟨Nat.le_of_ble_eq_true rfl, Nat.le_of_ble_eq_true rfl⟩ (fun _ h => h.elim) (th_kpi (fun locs hS => ?_))
  by_cases q1 : th_ir x1 0 S.1
  · refine th_ti (th_bT q1) ?_
    have uq9 := q1
    obtain ⟨j1, j1a, j1b, ux9⟩ := uq9
    subst ux9
    have zj1 : th_ix (nI j1) = j1 := th_ixN (by omega)
    obtain ⟨hn1, hs1, hf1⟩ := hv.2.1 j1 j1b
    refine th_zeq (tgt := 41) hx hb dX6_testLeaf_5 (by decide) (by omega) (fun c_1 => by exfalso; omega) (fun c_1 => ?_)
    refine lv_iload_n hx hb dX6_testLeaf_8 rfl (lv_at hl 2 rfl) ?_
    refine th_callS hx hb hml hown hts ⟨hK, hN⟩ hl hS (rest := []) (c_X6_isValue l Y _ x2) ok_X6_isValue tw_3_237 dX6_testLeaf_9 rfl rfl (Nat.le_of_ble_eq_true rfl) ⟨Nat.le_of_ble_eq_true rfl, Nat.le_of_ble_eq_true rfl⟩ ⟨Nat.le_of_ble_eq_true rfl, Nat.le_of_ble_eq_true rfl⟩ (fun _ h => h.elim) (th_kpi (fun locs hS => ?_))
    by_cases q2 : th_ir x2 0 65536
    · refine th_ti (th_bT q2) ?_
      have uq9 := q2
      obtain ⟨j2, j2a, j2b, ux9⟩ := uq9
      subst ux9
      have zj2 : th_ix (nI j2) = j2 := th_ixN (by omega)
      refine th_zeq (tgt := 41) hx hb dX6_testLeaf_12 (by decide) (by omega) (fun c_2 => by exfalso; omega) (fun c_2 => ?_)
      refine lv_aload_n hx hb dX6_testLeaf_15 rfl (lv_at hl 0 rfl) ?_
      refine lv_iload_n hx hb dX6_testLeaf_16 rfl (lv_at hl 1 rfl) ?_
      refine lv_iload hx hb dX6_testLeaf_17 (lv_at hl 4 rfl) ?_
      refine th_callV hx hb hml hown hts ⟨hK, hN⟩ hl hS (hP 0 _ rfl) rfl (rest := []) (c_X6_isSize l Y _ ro thr stp efr esz etr S.1 S.2.2.2.1 siz (hP.sub (ws' := [(ro 0, .inr (6, [.int thr, .ref (ro 1), .ref (ro 2), .int (nI S.1), .ref (ro 3), .ref (ro 4), .ref (ro 5), .int (nI S.2.2.2.1), .ref (ro 6), .ref (ro 7), .int stp, .int efr, .int esz, .int etr, .ref (ro 8), .ref (ro 9), .ref (ro 10), .ref (ro 11), .ref (ro 12), .ref (ro 13), .ref (ro 14), .ref (ro 15)])), (ro 2, .inl (Y.2 0, 3, .inl siz))]) [0, 2] rfl) j1 (S.2.1 j1) (by omega) hs1 hn1 x4) ok_X6_isSize tw_4_54 dX6_testLeaf_19 rfl rfl (Nat.le_of_ble_eq_true rfl) ⟨Nat.le_of_ble_eq_true rfl, Nat.le_of_ble_eq_true rfl⟩ ⟨Nat.le_of_ble_eq_true rfl, Nat.le_of_ble_eq_true rfl⟩ (fun _ h => h.elim) (th_kpi (fun locs hS => ?_))
      by_cases q4 : th_ir x4 1 (S.2.1 j1 + 1)
      · refine th_ti (th_bT q4) ?_
        have uq9 := q4
        obtain ⟨j4, j4a, j4b, ux9⟩ := uq9
        subst ux9
        have zj4 : th_ix (nI j4) = j4 := th_ixN (by omega)
        refine th_zeq (tgt := 41) hx hb dX6_testLeaf_22 (by decide) (by omega) (fun c_3 => by exfalso; omega) (fun c_3 => ?_)
        refine lv_iload_n hx hb dX6_testLeaf_25 rfl (lv_at hl 3 rfl) ?_
        refine lv_iconst (v := nI 0) hx hb dX6_testLeaf_26 (by decide) ?_
        refine lv_iload hx hb dX6_testLeaf_27 (lv_at hl 4 rfl) ?_
        refine lv_iconst (v := nI 1) hx hb dX6_testLeaf_29 (by decide) ?_
        refine lv_isub hx hb dX6_testLeaf_30 ?_
        refine th_ti (pk_sub (by omega)) ?_
        refine th_callS hx hb hml hown hts ⟨hK, hN⟩ hl hS (rest := []) (c_X6_in l Y _ x3 (nI 0) (nI (j4 - 1))) ok_X6_in tw_3_234 dX6_testLeaf_31 rfl rfl (Nat.le_of_ble_eq_true rfl) ⟨Nat.le_of_ble_eq_true rfl, Nat.le_of_ble_eq_true rfl⟩ ⟨Nat.le_of_ble_eq_true rfl, Nat.le_of_ble_eq_true rfl⟩ (fun _ h => h.elim) (th_kpi (fun locs hS => ?_))
        refine th_ti (th_bE ((th_irP (by decide) (by omega)).trans (by rw [show j4 - 1 + 1 = j4 by omega]))) ?_
        by_cases q3 : th_ir x3 0 j4
        · refine th_ti (th_bT q3) ?_
          have uq9 := q3
          obtain ⟨j3, j3a, j3b, ux9⟩ := uq9
          subst ux9
          have zj3 : th_ix (nI j3) = j3 := th_ixN (by omega)
          refine th_zeq (tgt := 41) hx hb dX6_testLeaf_34 (by decide) (by omega) (fun c_4 => by exfalso; omega) (fun c_4 => ?_)
          refine lv_iconst (v := nI 1) hx hb dX6_testLeaf_37 (by decide) ?_
          refine lv_goto (tgt := 42) hx hb dX6_testLeaf_38 (by decide) ?_
          refine lv_istore (lv' := [(5, .int (nI 1)), (0, .ref (ro 0)), (1, .int (nI j1)), (2, .int (nI j2)), (3, .int (nI j3)), (4, .int (nI j4))]) hx hb dX6_testLeaf_42 hl (by decide) rfl (fun ls hl => ?_)
          refine lv_aload_n hx hb dX6_testLeaf_44 rfl (lv_at hl 1 rfl) ?_
          refine lv_aload_n hx hb dX6_testLeaf_45 rfl (lv_at hl 1 rfl) ?_
          refine lv_iload_n hx hb dX6_testLeaf_46 rfl (lv_at hl 2 rfl) ?_
          refine th_callV hx hb hml hown hts ⟨hK, hN⟩ hl hS (hP 0 _ rfl) rfl (rest := [.ref (ro 0)]) (c_X6_isView l Y _ ro thr stp efr esz etr S.1 S.2.2.2.1 (hP.sub (ws' := [(ro 0, .inr (6, [.int thr, .ref (ro 1), .ref (ro 2), .int (nI S.1), .ref (ro 3), .ref (ro 4), .ref (ro 5), .int (nI S.2.2.2.1), .ref (ro 6), .ref (ro 7), .int stp, .int efr, .int esz, .int etr, .ref (ro 8), .ref (ro 9), .ref (ro 10), .ref (ro 11), .ref (ro 12), .ref (ro 13), .ref (ro 14), .ref (ro 15)]))]) [0] rfl) (by omega) (by omega) (nI j1)) ok_X6_isView tw_3_230 dX6_testLeaf_47 rfl rfl (Nat.le_of_ble_eq_true rfl) ⟨Nat.le_of_ble_eq_true rfl, Nat.le_of_ble_eq_true rfl⟩ ⟨Nat.le_of_ble_eq_true rfl, Nat.le_of_ble_eq_true rfl⟩ (fun _ h => h.elim) (th_kpi (fun locs hS => ?_))
          refine th_ti (th_bT q1) ?_
          refine th_zne (tgt := 57) hx hb dX6_testLeaf_50 (by decide) (by omega) (fun c_5 => ?_) (fun c_5 => by exfalso; omega)
          refine lv_iload hx hb dX6_testLeaf_57 (lv_at hl 0 rfl) ?_
          refine th_zeq (tgt := 66) hx hb dX6_testLeaf_59 (by decide) (by omega) (fun c_6 => by exfalso; omega) (fun c_6 => ?_)
          refine lv_iconst (v := nI 0) hx hb dX6_testLeaf_62 (by decide) ?_
          refine lv_goto (tgt := 67) hx hb dX6_testLeaf_63 (by decide) ?_
          refine th_callV hx hb hml hown hts ⟨hK, hN⟩ hl hS (hP 0 _ rfl) rfl (rest := []) (c_X6_goesWell l Y _ ro thr stp efr esz etr S.1 S.2.2.2.1 (hP.sub (ws' := [(ro 0, .inr (6, [.int thr, .ref (ro 1), .ref (ro 2), .int (nI S.1), .ref (ro 3), .ref (ro 4), .ref (ro 5), .int (nI S.2.2.2.1), .ref (ro 6), .ref (ro 7), .int stp, .int efr, .int esz, .int etr, .ref (ro 8), .ref (ro 9), .ref (ro 10), .ref (ro 11), .ref (ro 12), .ref (ro 13), .ref (ro 14), .ref (ro 15)]))]) [0] rfl) 0 (by omega)) ok_X6_goesWell tw_4_1 dX6_testLeaf_67 rfl rfl (Nat.le_of_ble_eq_true rfl) ⟨Nat.le_of_ble_eq_true rfl, Nat.le_of_ble_eq_true rfl⟩ ⟨Nat.le_of_ble_eq_true rfl, Nat.le_of_ble_eq_true rfl⟩ (th_subL [0] rfl) (th_ki (fun rz9 H locs hp hsm hS => ?_))
          obtain ⟨hrz, hPc⟩ := hp
          have hP : va_P Y.1 vwCl [(ro 0, .inr (6, [.int (nI 0), .ref (ro 1), .ref (ro 2), .int (nI S.1), .ref (ro 3), .ref (ro 4), .ref (ro 5), .int (nI S.2.2.2.1), .ref (ro 6), .ref (ro 7), .int stp, .int efr, .int esz, .int etr, .ref (ro 8), .ref (ro 9), .ref (ro 10), .ref (ro 11), .ref (ro 12), .ref (ro 13), .ref (ro 14), .ref (ro 15)])), (ro 1, .inl (Y.2 0, 300, .inl val)), (ro 2, .inl (Y.2 0, 3, .inl siz)), (ro 3, .inl (Y.2 0, 8, .inl tre)), (ro 4, .inl (Y.2 0, 8, .inl spa)), (ro 5, .inl (Y.2 0, 12, .inl pro)), (ro 6, .inl (Y.2 0, 12, .inl bes)), (ro 7, .inl (Y.2 1, 12, .inl isr)), (ro 8, .inl (Y.2 0, 64, .inl key)), (ro 9, .inl (Y.2 0, 64, .inl lev)), (ro 10, .inl (Y.2 0, 4, .inl kvi)), (ro 11, .inl (Y.2 0, 4, .inl ksz)), (ro 12, .inl (Y.2 0, 4, .inl krt)), (ro 13, .inl (Y.2 1, 4, .inl ala)), (ro 14, .inl (Y.2 0, 4, .inl fol)), (ro 15, .inl (Y.2 0, 4, .inl cts))] _ := (th_join (wr := [(ro 1, .inl (Y.2 0, 300, .inl val)), (ro 2, .inl (Y.2 0, 3, .inl siz)), (ro 3, .inl (Y.2 0, 8, .inl tre)), (ro 4, .inl (Y.2 0, 8, .inl spa)), (ro 5, .inl (Y.2 0, 12, .inl pro)), (ro 6, .inl (Y.2 0, 12, .inl bes)), (ro 7, .inl (Y.2 1, 12, .inl isr)), (ro 8, .inl (Y.2 0, 64, .inl key)), (ro 9, .inl (Y.2 0, 64, .inl lev)), (ro 10, .inl (Y.2 0, 4, .inl kvi)), (ro 11, .inl (Y.2 0, 4, .inl ksz)), (ro 12, .inl (Y.2 0, 4, .inl krt)), (ro 13, .inl (Y.2 1, 4, .inl ala)), (ro 14, .inl (Y.2 0, 4, .inl fol)), (ro 15, .inl (Y.2 0, 4, .inl cts))]) hP hD [1, 2, 3, 4, 5, 6, 7, 8, 9, 10, 11, 12, 13, 14, 15] [0] rfl rfl (by decide) hsm hPc).sub [15, 0, 1, 2, 3, 4, 5, 6, 7, 8, 9, 10, 11, 12, 13, 14] rfl
          have hD : va_D _ [(ro 0, .inr (6, [.int (nI 0), .ref (ro 1), .ref (ro 2), .int (nI S.1), .ref (ro 3), .ref (ro 4), .ref (ro 5), .int (nI S.2.2.2.1), .ref (ro 6), .ref (ro 7), .int stp, .int efr, .int esz, .int etr, .ref (ro 8), .ref (ro 9), .ref (ro 10), .ref (ro 11), .ref (ro 12), .ref (ro 13), .ref (ro 14), .ref (ro 15)])), (ro 1, .inl (Y.2 0, 300, .inl val)), (ro 2, .inl (Y.2 0, 3, .inl siz)), (ro 3, .inl (Y.2 0, 8, .inl tre)), (ro 4, .inl (Y.2 0, 8, .inl spa)), (ro 5, .inl (Y.2 0, 12, .inl pro)), (ro 6, .inl (Y.2 0, 12, .inl bes)), (ro 7, .inl (Y.2 1, 12, .inl isr)), (ro 8, .inl (Y.2 0, 64, .inl key)), (ro 9, .inl (Y.2 0, 64, .inl lev)), (ro 10, .inl (Y.2 0, 4, .inl kvi)), (ro 11, .inl (Y.2 0, 4, .inl ksz)), (ro 12, .inl (Y.2 0, 4, .inl krt)), (ro 13, .inl (Y.2 1, 4, .inl ala)), (ro 14, .inl (Y.2 0, 4, .inl fol)), (ro 15, .inl (Y.2 0, 4, .inl cts))] := th_Dsame hD rfl
          obtain rfl : rz9 = nI 1 := by rw [hrz]; rfl
          refine th_zne (tgt := 75) hx hb dX6_testLeaf_70 (by decide) (by omega) (fun c_7 => ?_) (fun c_7 => by exfalso; omega)
          have hin9 : th_in3 j4 (0, j4, j3) := ⟨(by omega : j3 < j4), (by omega : 0 + j4 ≤ j4), th_al_0 (by omega : j4 ≤ 128)⟩
          have hq9 : (0, j4, j3).2.1 ≤ 128 := (by omega : j4 ≤ 128)
          have hd9 := (th_rowsL hin9 hq9).1
          refine lv_aload_n hx hb dX6_testLeaf_75 rfl (lv_at hl 1 rfl) ?_
          refine lv_iload_n hx hb dX6_testLeaf_76 rfl (lv_at hl 2 rfl) ?_
          refine lv_iload_n hx hb dX6_testLeaf_77 rfl (lv_at hl 4 rfl) ?_
          refine lv_iload hx hb dX6_testLeaf_78 (lv_at hl 5 rfl) ?_
          refine th_callV hx hb hml hown hts ⟨hK, hN⟩ hl hS (hP 0 _ rfl) rfl (rest := []) (c_X6_goToLeaf l Y _ ro hJ (nI 0) stp efr esz etr S.1 S.2.2.2.1 val siz tre spa pro bes isr key lev kvi ksz krt ala fol cts j1 j4 j3 hP (by omega) (by omega) (by omega)) ok_X6_goToLeaf tw_4_58 dX6_testLeaf_80 rfl rfl (Nat.le_of_ble_eq_true rfl) ⟨Nat.le_of_ble_eq_true rfl, Nat.le_of_ble_eq_true rfl⟩ ⟨Nat.le_of_ble_eq_true rfl, Nat.le_of_ble_eq_true rfl⟩ (fun _ h9 => h9) (th_kv (fun H locs hp hsm hS => ?_))
          obtain ⟨trg, spg, beg, isg, hPc, hRB⟩ := hp
          have hP : va_P Y.1 vwCl [(ro 0, .inr (6, [.int (nI 0), .ref (ro 1), .ref (ro 2), .int (nI S.1), .ref (ro 3), .ref (ro 4), .ref (ro 5), .int (nI S.2.2.2.1), .ref (ro 6), .ref (ro 7), .int (nI (th_dL (0, j4, j3))), .int efr, .int esz, .int etr, .ref (ro 8), .ref (ro 9), .ref (ro 10), .ref (ro 11), .ref (ro 12), .ref (ro 13), .ref (ro 14), .ref (ro 15)])), (ro 1, .inl (Y.2 0, 300, .inl val)), (ro 2, .inl (Y.2 0, 3, .inl siz)), (ro 3, .inl (Y.2 0, 8, .inl trg)), (ro 4, .inl (Y.2 0, 8, .inl spg)), (ro 5, .inl (Y.2 0, 12, .inl pro)), (ro 6, .inl (Y.2 0, 12, .inl beg)), (ro 7, .inl (Y.2 1, 12, .inl isg)), (ro 8, .inl (Y.2 0, 64, .inl key)), (ro 9, .inl (Y.2 0, 64, .inl lev)), (ro 10, .inl (Y.2 0, 4, .inl kvi)), (ro 11, .inl (Y.2 0, 4, .inl ksz)), (ro 12, .inl (Y.2 0, 4, .inl krt)), (ro 13, .inl (Y.2 1, 4, .inl ala)), (ro 14, .inl (Y.2 0, 4, .inl fol)), (ro 15, .inl (Y.2 0, 4, .inl cts))] _ := hPc
          have hD : va_D _ [(ro 0, .inr (6, [.int (nI 0), .ref (ro 1), .ref (ro 2), .int (nI S.1), .ref (ro 3), .ref (ro 4), .ref (ro 5), .int (nI S.2.2.2.1), .ref (ro 6), .ref (ro 7), .int (nI (th_dL (0, j4, j3))), .int efr, .int esz, .int etr, .ref (ro 8), .ref (ro 9), .ref (ro 10), .ref (ro 11), .ref (ro 12), .ref (ro 13), .ref (ro 14), .ref (ro 15)])), (ro 1, .inl (Y.2 0, 300, .inl val)), (ro 2, .inl (Y.2 0, 3, .inl siz)), (ro 3, .inl (Y.2 0, 8, .inl trg)), (ro 4, .inl (Y.2 0, 8, .inl spg)), (ro 5, .inl (Y.2 0, 12, .inl pro)), (ro 6, .inl (Y.2 0, 12, .inl beg)), (ro 7, .inl (Y.2 1, 12, .inl isg)), (ro 8, .inl (Y.2 0, 64, .inl key)), (ro 9, .inl (Y.2 0, 64, .inl lev)), (ro 10, .inl (Y.2 0, 4, .inl kvi)), (ro 11, .inl (Y.2 0, 4, .inl ksz)), (ro 12, .inl (Y.2 0, 4, .inl krt)), (ro 13, .inl (Y.2 1, 4, .inl ala)), (ro 14, .inl (Y.2 0, 4, .inl fol)), (ro 15, .inl (Y.2 0, 4, .inl cts))] := th_Dsame hD rfl
          refine lv_iload_n hx hb dX6_testLeaf_83 rfl (lv_at hl 3 rfl) ?_
          refine th_callS hx hb hml hown hts ⟨hK, hN⟩ hl hS (rest := []) (c_X6_leafSum l Y _ (nI j2)) ok_X6_leafSum tw_4_37 dX6_testLeaf_84 rfl rfl (Nat.le_of_ble_eq_true rfl) ⟨Nat.le_of_ble_eq_true rfl, Nat.le_of_ble_eq_true rfl⟩ ⟨Nat.le_of_ble_eq_true rfl, Nat.le_of_ble_eq_true rfl⟩ (fun _ h => h.elim) (th_kpi (fun locs hS => ?_))
          refine lv_istore (lv' := [(6, .int (th_ls (nI j2))), (5, .int (nI 1)), (0, .ref (ro 0)), (1, .int (nI j1)), (2, .int (nI j2)), (3, .int (nI j3)), (4, .int (nI j4))]) hx hb dX6_testLeaf_87 hl (by decide) rfl (fun ls hl => ?_)
          refine lv_iconst (v := nI 0) hx hb dX6_testLeaf_89 (by decide) ?_
          refine lv_istore (lv' := [(7, .int (nI 0)), (6, .int (th_ls (nI j2))), (5, .int (nI 1)), (0, .ref (ro 0)), (1, .int (nI j1)), (2, .int (nI j2)), (3, .int (nI j3)), (4, .int (nI j4))]) hx hb dX6_testLeaf_90 hl (by decide) rfl (fun ls hl => ?_)
          have lp_8 : ∀ (n_9 : Nat) (k9 : Nat) (x9 : Int32) (locs : List Loc) (ls : Array Slot), th_dL (0, j4, j3) - k9 < n_9 → (k9 ≤ th_dL (0, j4, j3)) → (x9 = th_fd (th_dL (0, j4, j3)) (th_F (0, j4, j3)) pro 0 (th_ls (nI j2)) k9) → va_S (fun z => z ∈ [ro 0, ro 1, ro 2, ro 3, ro 4, ro 5, ro 6, ro 7, ro 8, ro 9, ro 10, ro 11, ro 12, ro 13, ro 14, ro 15]) H0 H locs → lv_has ls 8 [(0, .ref (ro 0)), (1, .int (nI j1)), (2, .int (nI j2)), (3, .int (nI j3)), (4, .int (nI j4)), (5, .int (nI 1)), (6, .int x9), (7, .int (nI k9))] → W p l e (th_rm 6 0 0) s m args below meth c H locs 0 0 Q (F0 m 92 ls []) := by
            intro n_9; induction n_9 with
            | zero => intros; exfalso; omega
            | succ n_9 ih_10 =>
              intro k9 x9 locs ls hmz hk9 hx9 hS hl
              refine lv_iload hx hb dX6_testLeaf_92 (lv_at hl 7 rfl) ?_
              refine lv_aload_n hx hb dX6_testLeaf_94 rfl (lv_at hl 0 rfl) ?_
              refine va_get (D := Y.1) (ci := 6) (v := .int (nI (th_dL (0, j4, j3)))) (C := RX6) (T := TX6) (N := 22) hx hb hts inX6 hown hK hP 0 rfl rfl 10 (by decide) (hts _ tw_3_165) (fun _ h9 => h9) rfl dX6_testLeaf_95 ?_
              refine th_ige (tgt := 164) hx hb dX6_testLeaf_98 (by decide) (by omega) (by omega) (fun c_11 => ?_) (fun c_11 => ?_)
              · skip
                refine lv_aload_n hx hb dX6_testLeaf_164 rfl (lv_at hl 0 rfl) ?_
                refine va_get (D := Y.1) (ci := 6) (v := .int (nI (th_dL (0, j4, j3)))) (C := RX6) (T := TX6) (N := 22) hx hb hts inX6 hown hK hP 0 rfl rfl 10 (by decide) (hts _ tw_3_165) (fun _ h9 => h9) rfl dX6_testLeaf_165 ?_
                refine lv_aload_n hx hb dX6_testLeaf_168 rfl (lv_at hl 0 rfl) ?_
                refine va_get (D := Y.1) (ci := 6) (v := .int (nI S.2.2.2.1)) (C := RX6) (T := TX6) (N := 22) hx hb hts inX6 hown hK hP 0 rfl rfl 7 (by decide) (hts _ tw_3_162) (fun _ h9 => h9) rfl dX6_testLeaf_169 ?_
                refine th_ine (tgt := 192) hx hb dX6_testLeaf_172 (by decide) (by omega) (by omega) (fun c_12 => ?_) (fun c_12 => ?_)
                · skip
                  refine lv_iconst (v := nI 0) hx hb dX6_testLeaf_192 (by decide) ?_
                  refine th_zret hx hb hr hlk hQ hS dX6_testLeaf_193 (Nat.le_of_ble_eq_true rfl) (Nat.le_of_ble_eq_true rfl) (by first | exact Or.inl rfl | exact Or.inr rfl | assumption | exact th_b01 _) ?_
                  show th_ro Y ro (_) _ _
                  unfold sp_testLeaf
                  simp only [th_qL, th_qG, zj1, zj2, zj4, zj3]
                  rw [th_ifT q1, th_ifT ⟨q2, q4, q3⟩]
                  exact th_roT ((th_bF (fun z9 => c_12 z9.1.symm)).symm.trans (th_bE (th_aLE (fun j9 hj9 => hv.2.2.2.1 j9 hj9)))) (th_rgI hP (hv))
                  
                refine lv_iload hx hb dX6_testLeaf_175 (lv_at hl 6 rfl) ?_
                refine lv_aload_n hx hb dX6_testLeaf_177 rfl (lv_at hl 0 rfl) ?_
                refine lv_iload_n hx hb dX6_testLeaf_178 rfl (lv_at hl 1 rfl) ?_
                refine lv_iconst (v := nI 0) hx hb dX6_testLeaf_179 (by decide) ?_
                refine lv_iload hx hb dX6_testLeaf_180 (lv_at hl 4 rfl) ?_
                refine th_callV hx hb hml hown hts ⟨hK, hN⟩ hl hS (hP 0 _ rfl) rfl (rest := [.int x9]) (c_X6_rootOf l Y _ ro (nI 0) (nI (th_dL (0, j4, j3))) efr esz etr S.1 S.2.2.2.1 val trg spg (hP.sub (ws' := [(ro 0, .inr (6, [.int (nI 0), .ref (ro 1), .ref (ro 2), .int (nI S.1), .ref (ro 3), .ref (ro 4), .ref (ro 5), .int (nI S.2.2.2.1), .ref (ro 6), .ref (ro 7), .int (nI (th_dL (0, j4, j3))), .int efr, .int esz, .int etr, .ref (ro 8), .ref (ro 9), .ref (ro 10), .ref (ro 11), .ref (ro 12), .ref (ro 13), .ref (ro 14), .ref (ro 15)])), (ro 1, .inl (Y.2 0, 300, .inl val)), (ro 3, .inl (Y.2 0, 8, .inl trg)), (ro 4, .inl (Y.2 0, 8, .inl spg))]) [0, 1, 3, 4] rfl) ((hD.sub (ws' := [(ro 0, .inr (6, [.int (nI 0), .ref (ro 1), .ref (ro 2), .int (nI S.1), .ref (ro 3), .ref (ro 4), .ref (ro 5), .int (nI S.2.2.2.1), .ref (ro 6), .ref (ro 7), .int (nI (th_dL (0, j4, j3))), .int efr, .int esz, .int etr, .ref (ro 8), .ref (ro 9), .ref (ro 10), .ref (ro 11), .ref (ro 12), .ref (ro 13), .ref (ro 14), .ref (ro 15)])), (ro 1, .inl (Y.2 0, 300, .inl val)), (ro 3, .inl (Y.2 0, 8, .inl trg)), (ro 4, .inl (Y.2 0, 8, .inl spg))]) [0, 1, 3, 4] (by decide) rfl).weaken (fun _ _ _ _ => trivial)) j1 0 j4 (by omega) (by omega)) ok_X6_rootOf tw_4_33 dX6_testLeaf_182 rfl rfl (Nat.le_of_ble_eq_true rfl) ⟨Nat.le_of_ble_eq_true rfl, Nat.le_of_ble_eq_true rfl⟩ ⟨Nat.le_of_ble_eq_true rfl, Nat.le_of_ble_eq_true rfl⟩ (th_subL [0, 1, 3, 4] rfl) (th_ki (fun rz9 H locs hp hsm hS => ?_))
                obtain ⟨hrz, z_13t, z_13s, hPc⟩ := hp
                have hP : va_P Y.1 vwCl [(ro 0, .inr (6, [.int (nI 0), .ref (ro 1), .ref (ro 2), .int (nI S.1), .ref (ro 3), .ref (ro 4), .ref (ro 5), .int (nI S.2.2.2.1), .ref (ro 6), .ref (ro 7), .int (nI (th_dL (0, j4, j3))), .int efr, .int esz, .int etr, .ref (ro 8), .ref (ro 9), .ref (ro 10), .ref (ro 11), .ref (ro 12), .ref (ro 13), .ref (ro 14), .ref (ro 15)])), (ro 1, .inl (Y.2 0, 300, .inl val)), (ro 2, .inl (Y.2 0, 3, .inl siz)), (ro 3, .inl (Y.2 0, 8, .inl z_13t)), (ro 4, .inl (Y.2 0, 8, .inl z_13s)), (ro 5, .inl (Y.2 0, 12, .inl pro)), (ro 6, .inl (Y.2 0, 12, .inl beg)), (ro 7, .inl (Y.2 1, 12, .inl isg)), (ro 8, .inl (Y.2 0, 64, .inl key)), (ro 9, .inl (Y.2 0, 64, .inl lev)), (ro 10, .inl (Y.2 0, 4, .inl kvi)), (ro 11, .inl (Y.2 0, 4, .inl ksz)), (ro 12, .inl (Y.2 0, 4, .inl krt)), (ro 13, .inl (Y.2 1, 4, .inl ala)), (ro 14, .inl (Y.2 0, 4, .inl fol)), (ro 15, .inl (Y.2 0, 4, .inl cts))] _ := (th_join (wr := [(ro 2, .inl (Y.2 0, 3, .inl siz)), (ro 5, .inl (Y.2 0, 12, .inl pro)), (ro 6, .inl (Y.2 0, 12, .inl beg)), (ro 7, .inl (Y.2 1, 12, .inl isg)), (ro 8, .inl (Y.2 0, 64, .inl key)), (ro 9, .inl (Y.2 0, 64, .inl lev)), (ro 10, .inl (Y.2 0, 4, .inl kvi)), (ro 11, .inl (Y.2 0, 4, .inl ksz)), (ro 12, .inl (Y.2 0, 4, .inl krt)), (ro 13, .inl (Y.2 1, 4, .inl ala)), (ro 14, .inl (Y.2 0, 4, .inl fol)), (ro 15, .inl (Y.2 0, 4, .inl cts))]) hP hD [2, 5, 6, 7, 8, 9, 10, 11, 12, 13, 14, 15] [0, 1, 3, 4] rfl rfl (by decide) hsm hPc).sub [12, 13, 0, 14, 15, 1, 2, 3, 4, 5, 6, 7, 8, 9, 10, 11] rfl
                have hD : va_D _ [(ro 0, .inr (6, [.int (nI 0), .ref (ro 1), .ref (ro 2), .int (nI S.1), .ref (ro 3), .ref (ro 4), .ref (ro 5), .int (nI S.2.2.2.1), .ref (ro 6), .ref (ro 7), .int (nI (th_dL (0, j4, j3))), .int efr, .int esz, .int etr, .ref (ro 8), .ref (ro 9), .ref (ro 10), .ref (ro 11), .ref (ro 12), .ref (ro 13), .ref (ro 14), .ref (ro 15)])), (ro 1, .inl (Y.2 0, 300, .inl val)), (ro 2, .inl (Y.2 0, 3, .inl siz)), (ro 3, .inl (Y.2 0, 8, .inl z_13t)), (ro 4, .inl (Y.2 0, 8, .inl z_13s)), (ro 5, .inl (Y.2 0, 12, .inl pro)), (ro 6, .inl (Y.2 0, 12, .inl beg)), (ro 7, .inl (Y.2 1, 12, .inl isg)), (ro 8, .inl (Y.2 0, 64, .inl key)), (ro 9, .inl (Y.2 0, 64, .inl lev)), (ro 10, .inl (Y.2 0, 4, .inl kvi)), (ro 11, .inl (Y.2 0, 4, .inl ksz)), (ro 12, .inl (Y.2 0, 4, .inl krt)), (ro 13, .inl (Y.2 1, 4, .inl ala)), (ro 14, .inl (Y.2 0, 4, .inl fol)), (ro 15, .inl (Y.2 0, 4, .inl cts))] := th_Dsame hD rfl
                subst hrz
                refine th_ti (th_rt_c _ _ _ (fun k9 hk9 => (hf1 _ (by omega)).1)) ?_
                refine lv_icmp_ne (tgt := 192) hx hb dX6_testLeaf_185 (by decide) (fun c_14 => ?_) (fun c_14 => ?_)
                · skip
                  refine lv_iconst (v := nI 0) hx hb dX6_testLeaf_192 (by decide) ?_
                  refine th_zret hx hb hr hlk hQ hS dX6_testLeaf_193 (Nat.le_of_ble_eq_true rfl) (Nat.le_of_ble_eq_true rfl) (by first | exact Or.inl rfl | exact Or.inr rfl | assumption | exact th_b01 _) ?_
                  have ek9 : k9 = th_dL (0, j4, j3) := by omega
                  rw [ek9] at hx9
                  show th_ro Y ro (_) _ _
                  unfold sp_testLeaf
                  simp only [th_qL, th_qG, zj1, zj2, zj4, zj3]
                  rw [th_ifT q1, th_ifT ⟨q2, q4, q3⟩]
                  exact th_roT ((th_bF (fun z9 => c_14 (hx9.trans z9.2))).symm.trans (th_bE (th_aLE (fun j9 hj9 => hv.2.2.2.1 j9 hj9)))) (th_rgI hP (hv))
                  
                refine lv_iconst (v := nI 1) hx hb dX6_testLeaf_188 (by decide) ?_
                refine lv_goto (tgt := 193) hx hb dX6_testLeaf_189 (by decide) ?_
                refine th_zret hx hb hr hlk hQ hS dX6_testLeaf_193 (Nat.le_of_ble_eq_true rfl) (Nat.le_of_ble_eq_true rfl) (by first | exact Or.inl rfl | exact Or.inr rfl | assumption | exact th_b01 _) ?_
                have ek9 : k9 = th_dL (0, j4, j3) := by omega
                rw [ek9] at hx9
                show th_ro Y ro (_) _ _
                unfold sp_testLeaf
                simp only [th_qL, th_qG, zj1, zj2, zj4, zj3]
                rw [th_ifT q1, th_ifT ⟨q2, q4, q3⟩]
                exact th_roT ((th_bT ⟨c_12.symm, hx9.symm.trans c_14⟩).symm.trans (th_bE (th_aLE (fun j9 hj9 => hv.2.2.2.1 j9 hj9)))) (th_rgI hP (hv))
                
              refine lv_aload_n hx hb dX6_testLeaf_101 rfl (lv_at hl 0 rfl) ?_
              refine va_get (D := Y.1) (ci := 6) (v := .int (nI (th_dL (0, j4, j3)))) (C := RX6) (T := TX6) (N := 22) hx hb hts inX6 hown hK hP 0 rfl rfl 10 (by decide) (hts _ tw_3_165) (fun _ h9 => h9) rfl dX6_testLeaf_102 ?_
              refine lv_aload_n hx hb dX6_testLeaf_105 rfl (lv_at hl 0 rfl) ?_
              refine va_get (D := Y.1) (ci := 6) (v := .int (nI S.2.2.2.1)) (C := RX6) (T := TX6) (N := 22) hx hb hts inX6 hown hK hP 0 rfl rfl 7 (by decide) (hts _ tw_3_162) (fun _ h9 => h9) rfl dX6_testLeaf_106 ?_
              refine th_ine (tgt := 164) hx hb dX6_testLeaf_109 (by decide) (by omega) (by omega) (fun c_15 => ?_) (fun c_15 => ?_)
              · skip
                refine lv_aload_n hx hb dX6_testLeaf_164 rfl (lv_at hl 0 rfl) ?_
                refine va_get (D := Y.1) (ci := 6) (v := .int (nI (th_dL (0, j4, j3)))) (C := RX6) (T := TX6) (N := 22) hx hb hts inX6 hown hK hP 0 rfl rfl 10 (by decide) (hts _ tw_3_165) (fun _ h9 => h9) rfl dX6_testLeaf_165 ?_
                refine lv_aload_n hx hb dX6_testLeaf_168 rfl (lv_at hl 0 rfl) ?_
                refine va_get (D := Y.1) (ci := 6) (v := .int (nI S.2.2.2.1)) (C := RX6) (T := TX6) (N := 22) hx hb hts inX6 hown hK hP 0 rfl rfl 7 (by decide) (hts _ tw_3_162) (fun _ h9 => h9) rfl dX6_testLeaf_169 ?_
                refine th_ine (tgt := 192) hx hb dX6_testLeaf_172 (by decide) (by omega) (by omega) (fun c_16 => ?_) (fun c_16 => ?_)
                · skip
                  refine lv_iconst (v := nI 0) hx hb dX6_testLeaf_192 (by decide) ?_
                  refine th_zret hx hb hr hlk hQ hS dX6_testLeaf_193 (Nat.le_of_ble_eq_true rfl) (Nat.le_of_ble_eq_true rfl) (by first | exact Or.inl rfl | exact Or.inr rfl | assumption | exact th_b01 _) ?_
                  show th_ro Y ro (_) _ _
                  unfold sp_testLeaf
                  simp only [th_qL, th_qG, zj1, zj2, zj4, zj3]
                  rw [th_ifT q1, th_ifT ⟨q2, q4, q3⟩]
                  exact th_roT ((th_bF (fun z9 => c_16 z9.1.symm)).symm.trans (th_bE (th_aLE (fun j9 hj9 => hv.2.2.2.1 j9 hj9)))) (th_rgI hP (hv))
                  
                refine lv_iload hx hb dX6_testLeaf_175 (lv_at hl 6 rfl) ?_
                refine lv_aload_n hx hb dX6_testLeaf_177 rfl (lv_at hl 0 rfl) ?_
                refine lv_iload_n hx hb dX6_testLeaf_178 rfl (lv_at hl 1 rfl) ?_
                refine lv_iconst (v := nI 0) hx hb dX6_testLeaf_179 (by decide) ?_
                refine lv_iload hx hb dX6_testLeaf_180 (lv_at hl 4 rfl) ?_
                refine th_callV hx hb hml hown hts ⟨hK, hN⟩ hl hS (hP 0 _ rfl) rfl (rest := [.int x9]) (c_X6_rootOf l Y _ ro (nI 0) (nI (th_dL (0, j4, j3))) efr esz etr S.1 S.2.2.2.1 val trg spg (hP.sub (ws' := [(ro 0, .inr (6, [.int (nI 0), .ref (ro 1), .ref (ro 2), .int (nI S.1), .ref (ro 3), .ref (ro 4), .ref (ro 5), .int (nI S.2.2.2.1), .ref (ro 6), .ref (ro 7), .int (nI (th_dL (0, j4, j3))), .int efr, .int esz, .int etr, .ref (ro 8), .ref (ro 9), .ref (ro 10), .ref (ro 11), .ref (ro 12), .ref (ro 13), .ref (ro 14), .ref (ro 15)])), (ro 1, .inl (Y.2 0, 300, .inl val)), (ro 3, .inl (Y.2 0, 8, .inl trg)), (ro 4, .inl (Y.2 0, 8, .inl spg))]) [0, 1, 3, 4] rfl) ((hD.sub (ws' := [(ro 0, .inr (6, [.int (nI 0), .ref (ro 1), .ref (ro 2), .int (nI S.1), .ref (ro 3), .ref (ro 4), .ref (ro 5), .int (nI S.2.2.2.1), .ref (ro 6), .ref (ro 7), .int (nI (th_dL (0, j4, j3))), .int efr, .int esz, .int etr, .ref (ro 8), .ref (ro 9), .ref (ro 10), .ref (ro 11), .ref (ro 12), .ref (ro 13), .ref (ro 14), .ref (ro 15)])), (ro 1, .inl (Y.2 0, 300, .inl val)), (ro 3, .inl (Y.2 0, 8, .inl trg)), (ro 4, .inl (Y.2 0, 8, .inl spg))]) [0, 1, 3, 4] (by decide) rfl).weaken (fun _ _ _ _ => trivial)) j1 0 j4 (by omega) (by omega)) ok_X6_rootOf tw_4_33 dX6_testLeaf_182 rfl rfl (Nat.le_of_ble_eq_true rfl) ⟨Nat.le_of_ble_eq_true rfl, Nat.le_of_ble_eq_true rfl⟩ ⟨Nat.le_of_ble_eq_true rfl, Nat.le_of_ble_eq_true rfl⟩ (th_subL [0, 1, 3, 4] rfl) (th_ki (fun rz9 H locs hp hsm hS => ?_))
                obtain ⟨hrz, z_17t, z_17s, hPc⟩ := hp
                have hP : va_P Y.1 vwCl [(ro 0, .inr (6, [.int (nI 0), .ref (ro 1), .ref (ro 2), .int (nI S.1), .ref (ro 3), .ref (ro 4), .ref (ro 5), .int (nI S.2.2.2.1), .ref (ro 6), .ref (ro 7), .int (nI (th_dL (0, j4, j3))), .int efr, .int esz, .int etr, .ref (ro 8), .ref (ro 9), .ref (ro 10), .ref (ro 11), .ref (ro 12), .ref (ro 13), .ref (ro 14), .ref (ro 15)])), (ro 1, .inl (Y.2 0, 300, .inl val)), (ro 2, .inl (Y.2 0, 3, .inl siz)), (ro 3, .inl (Y.2 0, 8, .inl z_17t)), (ro 4, .inl (Y.2 0, 8, .inl z_17s)), (ro 5, .inl (Y.2 0, 12, .inl pro)), (ro 6, .inl (Y.2 0, 12, .inl beg)), (ro 7, .inl (Y.2 1, 12, .inl isg)), (ro 8, .inl (Y.2 0, 64, .inl key)), (ro 9, .inl (Y.2 0, 64, .inl lev)), (ro 10, .inl (Y.2 0, 4, .inl kvi)), (ro 11, .inl (Y.2 0, 4, .inl ksz)), (ro 12, .inl (Y.2 0, 4, .inl krt)), (ro 13, .inl (Y.2 1, 4, .inl ala)), (ro 14, .inl (Y.2 0, 4, .inl fol)), (ro 15, .inl (Y.2 0, 4, .inl cts))] _ := (th_join (wr := [(ro 2, .inl (Y.2 0, 3, .inl siz)), (ro 5, .inl (Y.2 0, 12, .inl pro)), (ro 6, .inl (Y.2 0, 12, .inl beg)), (ro 7, .inl (Y.2 1, 12, .inl isg)), (ro 8, .inl (Y.2 0, 64, .inl key)), (ro 9, .inl (Y.2 0, 64, .inl lev)), (ro 10, .inl (Y.2 0, 4, .inl kvi)), (ro 11, .inl (Y.2 0, 4, .inl ksz)), (ro 12, .inl (Y.2 0, 4, .inl krt)), (ro 13, .inl (Y.2 1, 4, .inl ala)), (ro 14, .inl (Y.2 0, 4, .inl fol)), (ro 15, .inl (Y.2 0, 4, .inl cts))]) hP hD [2, 5, 6, 7, 8, 9, 10, 11, 12, 13, 14, 15] [0, 1, 3, 4] rfl rfl (by decide) hsm hPc).sub [12, 13, 0, 14, 15, 1, 2, 3, 4, 5, 6, 7, 8, 9, 10, 11] rfl
                have hD : va_D _ [(ro 0, .inr (6, [.int (nI 0), .ref (ro 1), .ref (ro 2), .int (nI S.1), .ref (ro 3), .ref (ro 4), .ref (ro 5), .int (nI S.2.2.2.1), .ref (ro 6), .ref (ro 7), .int (nI (th_dL (0, j4, j3))), .int efr, .int esz, .int etr, .ref (ro 8), .ref (ro 9), .ref (ro 10), .ref (ro 11), .ref (ro 12), .ref (ro 13), .ref (ro 14), .ref (ro 15)])), (ro 1, .inl (Y.2 0, 300, .inl val)), (ro 2, .inl (Y.2 0, 3, .inl siz)), (ro 3, .inl (Y.2 0, 8, .inl z_17t)), (ro 4, .inl (Y.2 0, 8, .inl z_17s)), (ro 5, .inl (Y.2 0, 12, .inl pro)), (ro 6, .inl (Y.2 0, 12, .inl beg)), (ro 7, .inl (Y.2 1, 12, .inl isg)), (ro 8, .inl (Y.2 0, 64, .inl key)), (ro 9, .inl (Y.2 0, 64, .inl lev)), (ro 10, .inl (Y.2 0, 4, .inl kvi)), (ro 11, .inl (Y.2 0, 4, .inl ksz)), (ro 12, .inl (Y.2 0, 4, .inl krt)), (ro 13, .inl (Y.2 1, 4, .inl ala)), (ro 14, .inl (Y.2 0, 4, .inl fol)), (ro 15, .inl (Y.2 0, 4, .inl cts))] := th_Dsame hD rfl
                subst hrz
                refine th_ti (th_rt_c _ _ _ (fun k9 hk9 => (hf1 _ (by omega)).1)) ?_
                refine lv_icmp_ne (tgt := 192) hx hb dX6_testLeaf_185 (by decide) (fun c_18 => ?_) (fun c_18 => ?_)
                · skip
                  refine lv_iconst (v := nI 0) hx hb dX6_testLeaf_192 (by decide) ?_
                  refine th_zret hx hb hr hlk hQ hS dX6_testLeaf_193 (Nat.le_of_ble_eq_true rfl) (Nat.le_of_ble_eq_true rfl) (by first | exact Or.inl rfl | exact Or.inr rfl | assumption | exact th_b01 _) ?_
                  have ek9 : k9 = th_dL (0, j4, j3) := by omega
                  rw [ek9] at hx9
                  show th_ro Y ro (_) _ _
                  unfold sp_testLeaf
                  simp only [th_qL, th_qG, zj1, zj2, zj4, zj3]
                  rw [th_ifT q1, th_ifT ⟨q2, q4, q3⟩]
                  exact th_roT ((th_bF (fun z9 => c_18 (hx9.trans z9.2))).symm.trans (th_bE (th_aLE (fun j9 hj9 => hv.2.2.2.1 j9 hj9)))) (th_rgI hP (hv))
                  
                refine lv_iconst (v := nI 1) hx hb dX6_testLeaf_188 (by decide) ?_
                refine lv_goto (tgt := 193) hx hb dX6_testLeaf_189 (by decide) ?_
                refine th_zret hx hb hr hlk hQ hS dX6_testLeaf_193 (Nat.le_of_ble_eq_true rfl) (Nat.le_of_ble_eq_true rfl) (by first | exact Or.inl rfl | exact Or.inr rfl | assumption | exact th_b01 _) ?_
                have ek9 : k9 = th_dL (0, j4, j3) := by omega
                rw [ek9] at hx9
                show th_ro Y ro (_) _ _
                unfold sp_testLeaf
                simp only [th_qL, th_qG, zj1, zj2, zj4, zj3]
                rw [th_ifT q1, th_ifT ⟨q2, q4, q3⟩]
                exact th_roT ((th_bT ⟨c_16.symm, hx9.symm.trans c_18⟩).symm.trans (th_bE (th_aLE (fun j9 hj9 => hv.2.2.2.1 j9 hj9)))) (th_rgI hP (hv))
                
              refine lv_aload_n hx hb dX6_testLeaf_112 rfl (lv_at hl 0 rfl) ?_
              refine va_get (D := Y.1) (ci := 6) (v := .ref (ro 7)) (C := RX6) (T := TX6) (N := 22) hx hb hts inX6 hown hK hP 0 rfl rfl 9 (by decide) (hts _ tw_3_164) (fun _ h9 => h9) rfl dX6_testLeaf_113 ?_
              refine lv_aload_n hx hb dX6_testLeaf_116 rfl (lv_at hl 0 rfl) ?_
              refine va_get (D := Y.1) (ci := 6) (v := .int (nI (th_dL (0, j4, j3)))) (C := RX6) (T := TX6) (N := 22) hx hb hts inX6 hown hK hP 0 rfl rfl 10 (by decide) (hts _ tw_3_165) (fun _ h9 => h9) rfl dX6_testLeaf_117 ?_
              refine lv_iconst (v := nI 1) hx hb dX6_testLeaf_120 (by decide) ?_
              refine lv_isub hx hb dX6_testLeaf_121 ?_
              refine th_ti (pk_sub (by omega)) ?_
              refine lv_iload hx hb dX6_testLeaf_122 (lv_at hl 7 rfl) ?_
              refine lv_isub hx hb dX6_testLeaf_124 ?_
              refine th_ti (pk_sub (by omega)) ?_
              refine th_zald hx hb hK hP 7 rfl (j := (((th_dL (0, j4, j3)) - 1) - k9)) (by omega) (by omega) dX6_testLeaf_125 ?_
              have hri := (hRB (th_dL (0, j4, j3) - 1 - k9) (by omega)).2
              have hst := th_fd_s hx9
              rw [Nat.zero_add] at hst
              by_cases hh : (th_wa (0, j4, j3) (th_dL (0, j4, j3) - 1 - k9)).2.2 < th_sp (th_wa (0, j4, j3) (th_dL (0, j4, j3) - 1 - k9)).2.1
              · skip
                have hF : th_F (0, j4, j3) (th_dL (0, j4, j3) - 1 - k9) = 0 := if_pos hh
                refine th_ti (show isg (((th_dL (0, j4, j3)) - 1) - k9) = nI 1 from hri.trans (if_pos hh)) ?_
                refine th_zeq (tgt := 144) hx hb dX6_testLeaf_126 (by decide) (by omega) (fun c_19 => by exfalso; omega) (fun c_19 => ?_)
                refine lv_iload hx hb dX6_testLeaf_129 (lv_at hl 6 rfl) ?_
                refine lv_aload_n hx hb dX6_testLeaf_131 rfl (lv_at hl 0 rfl) ?_
                refine va_get (D := Y.1) (ci := 6) (v := .ref (ro 5)) (C := RX6) (T := TX6) (N := 22) hx hb hts inX6 hown hK hP 0 rfl rfl 6 (by decide) (hts _ tw_3_161) (fun _ h9 => h9) rfl dX6_testLeaf_132 ?_
                refine lv_iload hx hb dX6_testLeaf_135 (lv_at hl 7 rfl) ?_
                refine th_iald hx hb hK hP 5 rfl (j := k9) (by omega) (by omega) dX6_testLeaf_137 ?_
                refine th_callS hx hb hml hown hts ⟨hK, hN⟩ hl hS (rest := []) (c_X6_mix l Y _ x9 (pro k9)) ok_X6_mix tw_4_43 dX6_testLeaf_138 rfl rfl (Nat.le_of_ble_eq_true rfl) ⟨Nat.le_of_ble_eq_true rfl, Nat.le_of_ble_eq_true rfl⟩ ⟨Nat.le_of_ble_eq_true rfl, Nat.le_of_ble_eq_true rfl⟩ (fun _ h => h.elim) (th_kpi (fun locs hS => ?_))
                refine lv_goto (tgt := 156) hx hb dX6_testLeaf_141 (by decide) ?_
                refine lv_istore (lv' := [(6, .int (th_mx x9 (pro k9))), (0, .ref (ro 0)), (1, .int (nI j1)), (2, .int (nI j2)), (3, .int (nI j3)), (4, .int (nI j4)), (5, .int (nI 1)), (7, .int (nI k9))]) hx hb dX6_testLeaf_156 hl (by decide) rfl (fun ls hl => ?_)
                refine lv_iinc (v := nI (k9 + 1)) (lv' := [(7, .int (nI (k9 + 1))), (6, .int (th_mx x9 (pro k9))), (0, .ref (ro 0)), (1, .int (nI j1)), (2, .int (nI j2)), (3, .int (nI j3)), (4, .int (nI j4)), (5, .int (nI 1))]) hx hb dX6_testLeaf_158 hl (k := 7) rfl (nI_add _ 1) (by decide) rfl (fun ls hl => ?_)
                refine lv_goto (tgt := 92) hx hb dX6_testLeaf_161 (by decide) ?_
                exact ih_10 (k9 + 1) (th_mx x9 (pro k9)) _ _ (by omega) (by omega) (hst.1 hF) hS (lv_sub hl [2, 3, 4, 5, 6, 7, 1, 0] rfl)
              · skip
                have hF : ¬ th_F (0, j4, j3) (th_dL (0, j4, j3) - 1 - k9) = 0 := by
                  rw [show th_F (0, j4, j3) (th_dL (0, j4, j3) - 1 - k9) = nI 1 from if_neg hh]
                  decide
                refine th_ti (show isg (((th_dL (0, j4, j3)) - 1) - k9) = nI 0 from hri.trans (if_neg hh)) ?_
                refine th_zeq (tgt := 144) hx hb dX6_testLeaf_126 (by decide) (by omega) (fun c_20 => ?_) (fun c_20 => by exfalso; omega)
                refine lv_aload_n hx hb dX6_testLeaf_144 rfl (lv_at hl 0 rfl) ?_
                refine va_get (D := Y.1) (ci := 6) (v := .ref (ro 5)) (C := RX6) (T := TX6) (N := 22) hx hb hts inX6 hown hK hP 0 rfl rfl 6 (by decide) (hts _ tw_3_161) (fun _ h9 => h9) rfl dX6_testLeaf_145 ?_
                refine lv_iload hx hb dX6_testLeaf_148 (lv_at hl 7 rfl) ?_
                refine th_iald hx hb hK hP 5 rfl (j := k9) (by omega) (by omega) dX6_testLeaf_150 ?_
                refine lv_iload hx hb dX6_testLeaf_151 (lv_at hl 6 rfl) ?_
                refine th_callS hx hb hml hown hts ⟨hK, hN⟩ hl hS (rest := []) (c_X6_mix l Y _ (pro k9) x9) ok_X6_mix tw_4_43 dX6_testLeaf_153 rfl rfl (Nat.le_of_ble_eq_true rfl) ⟨Nat.le_of_ble_eq_true rfl, Nat.le_of_ble_eq_true rfl⟩ ⟨Nat.le_of_ble_eq_true rfl, Nat.le_of_ble_eq_true rfl⟩ (fun _ h => h.elim) (th_kpi (fun locs hS => ?_))
                refine lv_istore (lv' := [(6, .int (th_mx (pro k9) x9)), (0, .ref (ro 0)), (1, .int (nI j1)), (2, .int (nI j2)), (3, .int (nI j3)), (4, .int (nI j4)), (5, .int (nI 1)), (7, .int (nI k9))]) hx hb dX6_testLeaf_156 hl (by decide) rfl (fun ls hl => ?_)
                refine lv_iinc (v := nI (k9 + 1)) (lv' := [(7, .int (nI (k9 + 1))), (6, .int (th_mx (pro k9) x9)), (0, .ref (ro 0)), (1, .int (nI j1)), (2, .int (nI j2)), (3, .int (nI j3)), (4, .int (nI j4)), (5, .int (nI 1))]) hx hb dX6_testLeaf_158 hl (k := 7) rfl (nI_add _ 1) (by decide) rfl (fun ls hl => ?_)
                refine lv_goto (tgt := 92) hx hb dX6_testLeaf_161 (by decide) ?_
                exact ih_10 (k9 + 1) (th_mx (pro k9) x9) _ _ (by omega) (by omega) (hst.2 hF) hS (lv_sub hl [2, 3, 4, 5, 6, 7, 1, 0] rfl)
          exact lp_8 ((th_dL (0, j4, j3) - (0)) + 1) (0) (th_ls (nI j2)) _ _ (Nat.lt_succ_self _) (by omega) (rfl) hS (lv_sub hl [3, 4, 5, 6, 7, 2, 1, 0] rfl)
        refine th_ti (th_bF q3) ?_
        refine th_zeq (tgt := 41) hx hb dX6_testLeaf_34 (by decide) (by omega) (fun c_21 => ?_) (fun c_21 => by exfalso; omega)
        refine lv_iconst (v := nI 0) hx hb dX6_testLeaf_41 (by decide) ?_
        refine lv_istore (lv' := [(5, .int (nI 0)), (0, .ref (ro 0)), (1, .int (nI j1)), (2, .int (nI j2)), (3, .int x3), (4, .int (nI j4))]) hx hb dX6_testLeaf_42 hl (by decide) rfl (fun ls hl => ?_)
        refine lv_aload_n hx hb dX6_testLeaf_44 rfl (lv_at hl 1 rfl) ?_
        refine lv_aload_n hx hb dX6_testLeaf_45 rfl (lv_at hl 1 rfl) ?_
        refine lv_iload_n hx hb dX6_testLeaf_46 rfl (lv_at hl 2 rfl) ?_
        refine th_callV hx hb hml hown hts ⟨hK, hN⟩ hl hS (hP 0 _ rfl) rfl (rest := [.ref (ro 0)]) (c_X6_isView l Y _ ro thr stp efr esz etr S.1 S.2.2.2.1 (hP.sub (ws' := [(ro 0, .inr (6, [.int thr, .ref (ro 1), .ref (ro 2), .int (nI S.1), .ref (ro 3), .ref (ro 4), .ref (ro 5), .int (nI S.2.2.2.1), .ref (ro 6), .ref (ro 7), .int stp, .int efr, .int esz, .int etr, .ref (ro 8), .ref (ro 9), .ref (ro 10), .ref (ro 11), .ref (ro 12), .ref (ro 13), .ref (ro 14), .ref (ro 15)]))]) [0] rfl) (by omega) (by omega) (nI j1)) ok_X6_isView tw_3_230 dX6_testLeaf_47 rfl rfl (Nat.le_of_ble_eq_true rfl) ⟨Nat.le_of_ble_eq_true rfl, Nat.le_of_ble_eq_true rfl⟩ ⟨Nat.le_of_ble_eq_true rfl, Nat.le_of_ble_eq_true rfl⟩ (fun _ h => h.elim) (th_kpi (fun locs hS => ?_))
        refine th_ti (th_bT q1) ?_
        refine th_zne (tgt := 57) hx hb dX6_testLeaf_50 (by decide) (by omega) (fun c_22 => ?_) (fun c_22 => by exfalso; omega)
        refine lv_iload hx hb dX6_testLeaf_57 (lv_at hl 0 rfl) ?_
        refine th_zeq (tgt := 66) hx hb dX6_testLeaf_59 (by decide) (by omega) (fun c_23 => ?_) (fun c_23 => by exfalso; omega)
        refine lv_iconst (v := nI 2) hx hb dX6_testLeaf_66 (by decide) ?_
        refine th_callV hx hb hml hown hts ⟨hK, hN⟩ hl hS (hP 0 _ rfl) rfl (rest := []) (c_X6_goesWell l Y _ ro thr stp efr esz etr S.1 S.2.2.2.1 (hP.sub (ws' := [(ro 0, .inr (6, [.int thr, .ref (ro 1), .ref (ro 2), .int (nI S.1), .ref (ro 3), .ref (ro 4), .ref (ro 5), .int (nI S.2.2.2.1), .ref (ro 6), .ref (ro 7), .int stp, .int efr, .int esz, .int etr, .ref (ro 8), .ref (ro 9), .ref (ro 10), .ref (ro 11), .ref (ro 12), .ref (ro 13), .ref (ro 14), .ref (ro 15)]))]) [0] rfl) 2 (by omega)) ok_X6_goesWell tw_4_1 dX6_testLeaf_67 rfl rfl (Nat.le_of_ble_eq_true rfl) ⟨Nat.le_of_ble_eq_true rfl, Nat.le_of_ble_eq_true rfl⟩ ⟨Nat.le_of_ble_eq_true rfl, Nat.le_of_ble_eq_true rfl⟩ (th_subL [0] rfl) (th_ki (fun rz9 H locs hp hsm hS => ?_))
        obtain ⟨hrz, hPc⟩ := hp
        have hP : va_P Y.1 vwCl [(ro 0, .inr (6, [.int (nI 2), .ref (ro 1), .ref (ro 2), .int (nI S.1), .ref (ro 3), .ref (ro 4), .ref (ro 5), .int (nI S.2.2.2.1), .ref (ro 6), .ref (ro 7), .int stp, .int efr, .int esz, .int etr, .ref (ro 8), .ref (ro 9), .ref (ro 10), .ref (ro 11), .ref (ro 12), .ref (ro 13), .ref (ro 14), .ref (ro 15)])), (ro 1, .inl (Y.2 0, 300, .inl val)), (ro 2, .inl (Y.2 0, 3, .inl siz)), (ro 3, .inl (Y.2 0, 8, .inl tre)), (ro 4, .inl (Y.2 0, 8, .inl spa)), (ro 5, .inl (Y.2 0, 12, .inl pro)), (ro 6, .inl (Y.2 0, 12, .inl bes)), (ro 7, .inl (Y.2 1, 12, .inl isr)), (ro 8, .inl (Y.2 0, 64, .inl key)), (ro 9, .inl (Y.2 0, 64, .inl lev)), (ro 10, .inl (Y.2 0, 4, .inl kvi)), (ro 11, .inl (Y.2 0, 4, .inl ksz)), (ro 12, .inl (Y.2 0, 4, .inl krt)), (ro 13, .inl (Y.2 1, 4, .inl ala)), (ro 14, .inl (Y.2 0, 4, .inl fol)), (ro 15, .inl (Y.2 0, 4, .inl cts))] _ := (th_join (wr := [(ro 1, .inl (Y.2 0, 300, .inl val)), (ro 2, .inl (Y.2 0, 3, .inl siz)), (ro 3, .inl (Y.2 0, 8, .inl tre)), (ro 4, .inl (Y.2 0, 8, .inl spa)), (ro 5, .inl (Y.2 0, 12, .inl pro)), (ro 6, .inl (Y.2 0, 12, .inl bes)), (ro 7, .inl (Y.2 1, 12, .inl isr)), (ro 8, .inl (Y.2 0, 64, .inl key)), (ro 9, .inl (Y.2 0, 64, .inl lev)), (ro 10, .inl (Y.2 0, 4, .inl kvi)), (ro 11, .inl (Y.2 0, 4, .inl ksz)), (ro 12, .inl (Y.2 0, 4, .inl krt)), (ro 13, .inl (Y.2 1, 4, .inl ala)), (ro 14, .inl (Y.2 0, 4, .inl fol)), (ro 15, .inl (Y.2 0, 4, .inl cts))]) hP hD [1, 2, 3, 4, 5, 6, 7, 8, 9, 10, 11, 12, 13, 14, 15] [0] rfl rfl (by decide) hsm hPc).sub [15, 0, 1, 2, 3, 4, 5, 6, 7, 8, 9, 10, 11, 12, 13, 14] rfl
        have hD : va_D _ [(ro 0, .inr (6, [.int (nI 2), .ref (ro 1), .ref (ro 2), .int (nI S.1), .ref (ro 3), .ref (ro 4), .ref (ro 5), .int (nI S.2.2.2.1), .ref (ro 6), .ref (ro 7), .int stp, .int efr, .int esz, .int etr, .ref (ro 8), .ref (ro 9), .ref (ro 10), .ref (ro 11), .ref (ro 12), .ref (ro 13), .ref (ro 14), .ref (ro 15)])), (ro 1, .inl (Y.2 0, 300, .inl val)), (ro 2, .inl (Y.2 0, 3, .inl siz)), (ro 3, .inl (Y.2 0, 8, .inl tre)), (ro 4, .inl (Y.2 0, 8, .inl spa)), (ro 5, .inl (Y.2 0, 12, .inl pro)), (ro 6, .inl (Y.2 0, 12, .inl bes)), (ro 7, .inl (Y.2 1, 12, .inl isr)), (ro 8, .inl (Y.2 0, 64, .inl key)), (ro 9, .inl (Y.2 0, 64, .inl lev)), (ro 10, .inl (Y.2 0, 4, .inl kvi)), (ro 11, .inl (Y.2 0, 4, .inl ksz)), (ro 12, .inl (Y.2 0, 4, .inl krt)), (ro 13, .inl (Y.2 1, 4, .inl ala)), (ro 14, .inl (Y.2 0, 4, .inl fol)), (ro 15, .inl (Y.2 0, 4, .inl cts))] := th_Dsame hD rfl
        obtain rfl : rz9 = nI 0 := by rw [hrz]; rfl
        refine th_zne (tgt := 75) hx hb dX6_testLeaf_70 (by decide) (by omega) (fun c_24 => by exfalso; omega) (fun c_24 => ?_)
        refine lv_iconst (v := nI 0) hx hb dX6_testLeaf_73 (by decide) ?_
        refine th_zret hx hb hr hlk hQ hS dX6_testLeaf_74 (Nat.le_of_ble_eq_true rfl) (Nat.le_of_ble_eq_true rfl) (by first | exact Or.inl rfl | exact Or.inr rfl | assumption | exact th_b01 _) ?_
        show th_ro Y ro (_) _ _
        unfold sp_testLeaf
        simp only [th_qL, th_qG, zj1, zj2, zj4]
        rw [th_ifT q1, th_ifF (fun z9 => q3 z9.2.2)]
        exact th_roF (by decide) (th_rgI hP hv)
        
      refine th_ti (th_bF q4) ?_
      refine th_zeq (tgt := 41) hx hb dX6_testLeaf_22 (by decide) (by omega) (fun c_25 => ?_) (fun c_25 => by exfalso; omega)
      refine lv_iconst (v := nI 0) hx hb dX6_testLeaf_41 (by decide) ?_
      refine lv_istore (lv' := [(5, .int (nI 0)), (0, .ref (ro 0)), (1, .int (nI j1)), (2, .int (nI j2)), (3, .int x3), (4, .int x4)]) hx hb dX6_testLeaf_42 hl (by decide) rfl (fun ls hl => ?_)
      refine lv_aload_n hx hb dX6_testLeaf_44 rfl (lv_at hl 1 rfl) ?_
      refine lv_aload_n hx hb dX6_testLeaf_45 rfl (lv_at hl 1 rfl) ?_
      refine lv_iload_n hx hb dX6_testLeaf_46 rfl (lv_at hl 2 rfl) ?_
      refine th_callV hx hb hml hown hts ⟨hK, hN⟩ hl hS (hP 0 _ rfl) rfl (rest := [.ref (ro 0)]) (c_X6_isView l Y _ ro thr stp efr esz etr S.1 S.2.2.2.1 (hP.sub (ws' := [(ro 0, .inr (6, [.int thr, .ref (ro 1), .ref (ro 2), .int (nI S.1), .ref (ro 3), .ref (ro 4), .ref (ro 5), .int (nI S.2.2.2.1), .ref (ro 6), .ref (ro 7), .int stp, .int efr, .int esz, .int etr, .ref (ro 8), .ref (ro 9), .ref (ro 10), .ref (ro 11), .ref (ro 12), .ref (ro 13), .ref (ro 14), .ref (ro 15)]))]) [0] rfl) (by omega) (by omega) (nI j1)) ok_X6_isView tw_3_230 dX6_testLeaf_47 rfl rfl (Nat.le_of_ble_eq_true rfl) ⟨Nat.le_of_ble_eq_true rfl, Nat.le_of_ble_eq_true rfl⟩ ⟨Nat.le_of_ble_eq_true rfl, Nat.le_of_ble_eq_true rfl⟩ (fun _ h => h.elim) (th_kpi (fun locs hS => ?_))
      refine th_ti (th_bT q1) ?_
      refine th_zne (tgt := 57) hx hb dX6_testLeaf_50 (by decide) (by omega) (fun c_26 => ?_) (fun c_26 => by exfalso; omega)
      refine lv_iload hx hb dX6_testLeaf_57 (lv_at hl 0 rfl) ?_
      refine th_zeq (tgt := 66) hx hb dX6_testLeaf_59 (by decide) (by omega) (fun c_27 => ?_) (fun c_27 => by exfalso; omega)
      refine lv_iconst (v := nI 2) hx hb dX6_testLeaf_66 (by decide) ?_
      refine th_callV hx hb hml hown hts ⟨hK, hN⟩ hl hS (hP 0 _ rfl) rfl (rest := []) (c_X6_goesWell l Y _ ro thr stp efr esz etr S.1 S.2.2.2.1 (hP.sub (ws' := [(ro 0, .inr (6, [.int thr, .ref (ro 1), .ref (ro 2), .int (nI S.1), .ref (ro 3), .ref (ro 4), .ref (ro 5), .int (nI S.2.2.2.1), .ref (ro 6), .ref (ro 7), .int stp, .int efr, .int esz, .int etr, .ref (ro 8), .ref (ro 9), .ref (ro 10), .ref (ro 11), .ref (ro 12), .ref (ro 13), .ref (ro 14), .ref (ro 15)]))]) [0] rfl) 2 (by omega)) ok_X6_goesWell tw_4_1 dX6_testLeaf_67 rfl rfl (Nat.le_of_ble_eq_true rfl) ⟨Nat.le_of_ble_eq_true rfl, Nat.le_of_ble_eq_true rfl⟩ ⟨Nat.le_of_ble_eq_true rfl, Nat.le_of_ble_eq_true rfl⟩ (th_subL [0] rfl) (th_ki (fun rz9 H locs hp hsm hS => ?_))
      obtain ⟨hrz, hPc⟩ := hp
      have hP : va_P Y.1 vwCl [(ro 0, .inr (6, [.int (nI 2), .ref (ro 1), .ref (ro 2), .int (nI S.1), .ref (ro 3), .ref (ro 4), .ref (ro 5), .int (nI S.2.2.2.1), .ref (ro 6), .ref (ro 7), .int stp, .int efr, .int esz, .int etr, .ref (ro 8), .ref (ro 9), .ref (ro 10), .ref (ro 11), .ref (ro 12), .ref (ro 13), .ref (ro 14), .ref (ro 15)])), (ro 1, .inl (Y.2 0, 300, .inl val)), (ro 2, .inl (Y.2 0, 3, .inl siz)), (ro 3, .inl (Y.2 0, 8, .inl tre)), (ro 4, .inl (Y.2 0, 8, .inl spa)), (ro 5, .inl (Y.2 0, 12, .inl pro)), (ro 6, .inl (Y.2 0, 12, .inl bes)), (ro 7, .inl (Y.2 1, 12, .inl isr)), (ro 8, .inl (Y.2 0, 64, .inl key)), (ro 9, .inl (Y.2 0, 64, .inl lev)), (ro 10, .inl (Y.2 0, 4, .inl kvi)), (ro 11, .inl (Y.2 0, 4, .inl ksz)), (ro 12, .inl (Y.2 0, 4, .inl krt)), (ro 13, .inl (Y.2 1, 4, .inl ala)), (ro 14, .inl (Y.2 0, 4, .inl fol)), (ro 15, .inl (Y.2 0, 4, .inl cts))] _ := (th_join (wr := [(ro 1, .inl (Y.2 0, 300, .inl val)), (ro 2, .inl (Y.2 0, 3, .inl siz)), (ro 3, .inl (Y.2 0, 8, .inl tre)), (ro 4, .inl (Y.2 0, 8, .inl spa)), (ro 5, .inl (Y.2 0, 12, .inl pro)), (ro 6, .inl (Y.2 0, 12, .inl bes)), (ro 7, .inl (Y.2 1, 12, .inl isr)), (ro 8, .inl (Y.2 0, 64, .inl key)), (ro 9, .inl (Y.2 0, 64, .inl lev)), (ro 10, .inl (Y.2 0, 4, .inl kvi)), (ro 11, .inl (Y.2 0, 4, .inl ksz)), (ro 12, .inl (Y.2 0, 4, .inl krt)), (ro 13, .inl (Y.2 1, 4, .inl ala)), (ro 14, .inl (Y.2 0, 4, .inl fol)), (ro 15, .inl (Y.2 0, 4, .inl cts))]) hP hD [1, 2, 3, 4, 5, 6, 7, 8, 9, 10, 11, 12, 13, 14, 15] [0] rfl rfl (by decide) hsm hPc).sub [15, 0, 1, 2, 3, 4, 5, 6, 7, 8, 9, 10, 11, 12, 13, 14] rfl
      have hD : va_D _ [(ro 0, .inr (6, [.int (nI 2), .ref (ro 1), .ref (ro 2), .int (nI S.1), .ref (ro 3), .ref (ro 4), .ref (ro 5), .int (nI S.2.2.2.1), .ref (ro 6), .ref (ro 7), .int stp, .int efr, .int esz, .int etr, .ref (ro 8), .ref (ro 9), .ref (ro 10), .ref (ro 11), .ref (ro 12), .ref (ro 13), .ref (ro 14), .ref (ro 15)])), (ro 1, .inl (Y.2 0, 300, .inl val)), (ro 2, .inl (Y.2 0, 3, .inl siz)), (ro 3, .inl (Y.2 0, 8, .inl tre)), (ro 4, .inl (Y.2 0, 8, .inl spa)), (ro 5, .inl (Y.2 0, 12, .inl pro)), (ro 6, .inl (Y.2 0, 12, .inl bes)), (ro 7, .inl (Y.2 1, 12, .inl isr)), (ro 8, .inl (Y.2 0, 64, .inl key)), (ro 9, .inl (Y.2 0, 64, .inl lev)), (ro 10, .inl (Y.2 0, 4, .inl kvi)), (ro 11, .inl (Y.2 0, 4, .inl ksz)), (ro 12, .inl (Y.2 0, 4, .inl krt)), (ro 13, .inl (Y.2 1, 4, .inl ala)), (ro 14, .inl (Y.2 0, 4, .inl fol)), (ro 15, .inl (Y.2 0, 4, .inl cts))] := th_Dsame hD rfl
      obtain rfl : rz9 = nI 0 := by rw [hrz]; rfl
      refine th_zne (tgt := 75) hx hb dX6_testLeaf_70 (by decide) (by omega) (fun c_28 => by exfalso; omega) (fun c_28 => ?_)
      refine lv_iconst (v := nI 0) hx hb dX6_testLeaf_73 (by decide) ?_
      refine th_zret hx hb hr hlk hQ hS dX6_testLeaf_74 (Nat.le_of_ble_eq_true rfl) (Nat.le_of_ble_eq_true rfl) (by first | exact Or.inl rfl | exact Or.inr rfl | assumption | exact th_b01 _) ?_
      show th_ro Y ro (_) _ _
      unfold sp_testLeaf
      simp only [th_qL, th_qG, zj1, zj2]
      rw [th_ifT q1, th_ifF (fun z9 => q4 z9.2.1)]
      exact th_roF (by decide) (th_rgI hP hv)
      
    refine th_ti (th_bF q2) ?_
    refine th_zeq (tgt := 41) hx hb dX6_testLeaf_12 (by decide) (by omega) (fun c_29 => ?_) (fun c_29 => by exfalso; omega)
    refine lv_iconst (v := nI 0) hx hb dX6_testLeaf_41 (by decide) ?_
    refine lv_istore (lv' := [(5, .int (nI 0)), (0, .ref (ro 0)), (1, .int (nI j1)), (2, .int x2), (3, .int x3), (4, .int x4)]) hx hb dX6_testLeaf_42 hl (by decide) rfl (fun ls hl => ?_)
    refine lv_aload_n hx hb dX6_testLeaf_44 rfl (lv_at hl 1 rfl) ?_
    refine lv_aload_n hx hb dX6_testLeaf_45 rfl (lv_at hl 1 rfl) ?_
    refine lv_iload_n hx hb dX6_testLeaf_46 rfl (lv_at hl 2 rfl) ?_
    refine th_callV hx hb hml hown hts ⟨hK, hN⟩ hl hS (hP 0 _ rfl) rfl (rest := [.ref (ro 0)]) (c_X6_isView l Y _ ro thr stp efr esz etr S.1 S.2.2.2.1 (hP.sub (ws' := [(ro 0, .inr (6, [.int thr, .ref (ro 1), .ref (ro 2), .int (nI S.1), .ref (ro 3), .ref (ro 4), .ref (ro 5), .int (nI S.2.2.2.1), .ref (ro 6), .ref (ro 7), .int stp, .int efr, .int esz, .int etr, .ref (ro 8), .ref (ro 9), .ref (ro 10), .ref (ro 11), .ref (ro 12), .ref (ro 13), .ref (ro 14), .ref (ro 15)]))]) [0] rfl) (by omega) (by omega) (nI j1)) ok_X6_isView tw_3_230 dX6_testLeaf_47 rfl rfl (Nat.le_of_ble_eq_true rfl) ⟨Nat.le_of_ble_eq_true rfl, Nat.le_of_ble_eq_true rfl⟩ ⟨Nat.le_of_ble_eq_true rfl, Nat.le_of_ble_eq_true rfl⟩ (fun _ h => h.elim) (th_kpi (fun locs hS => ?_))
    refine th_ti (th_bT q1) ?_
    refine th_zne (tgt := 57) hx hb dX6_testLeaf_50 (by decide) (by omega) (fun c_30 => ?_) (fun c_30 => by exfalso; omega)
    refine lv_iload hx hb dX6_testLeaf_57 (lv_at hl 0 rfl) ?_
    refine th_zeq (tgt := 66) hx hb dX6_testLeaf_59 (by decide) (by omega) (fun c_31 => ?_) (fun c_31 => by exfalso; omega)
    refine lv_iconst (v := nI 2) hx hb dX6_testLeaf_66 (by decide) ?_
    refine th_callV hx hb hml hown hts ⟨hK, hN⟩ hl hS (hP 0 _ rfl) rfl (rest := []) (c_X6_goesWell l Y _ ro thr stp efr esz etr S.1 S.2.2.2.1 (hP.sub (ws' := [(ro 0, .inr (6, [.int thr, .ref (ro 1), .ref (ro 2), .int (nI S.1), .ref (ro 3), .ref (ro 4), .ref (ro 5), .int (nI S.2.2.2.1), .ref (ro 6), .ref (ro 7), .int stp, .int efr, .int esz, .int etr, .ref (ro 8), .ref (ro 9), .ref (ro 10), .ref (ro 11), .ref (ro 12), .ref (ro 13), .ref (ro 14), .ref (ro 15)]))]) [0] rfl) 2 (by omega)) ok_X6_goesWell tw_4_1 dX6_testLeaf_67 rfl rfl (Nat.le_of_ble_eq_true rfl) ⟨Nat.le_of_ble_eq_true rfl, Nat.le_of_ble_eq_true rfl⟩ ⟨Nat.le_of_ble_eq_true rfl, Nat.le_of_ble_eq_true rfl⟩ (th_subL [0] rfl) (th_ki (fun rz9 H locs hp hsm hS => ?_))
    obtain ⟨hrz, hPc⟩ := hp
    have hP : va_P Y.1 vwCl [(ro 0, .inr (6, [.int (nI 2), .ref (ro 1), .ref (ro 2), .int (nI S.1), .ref (ro 3), .ref (ro 4), .ref (ro 5), .int (nI S.2.2.2.1), .ref (ro 6), .ref (ro 7), .int stp, .int efr, .int esz, .int etr, .ref (ro 8), .ref (ro 9), .ref (ro 10), .ref (ro 11), .ref (ro 12), .ref (ro 13), .ref (ro 14), .ref (ro 15)])), (ro 1, .inl (Y.2 0, 300, .inl val)), (ro 2, .inl (Y.2 0, 3, .inl siz)), (ro 3, .inl (Y.2 0, 8, .inl tre)), (ro 4, .inl (Y.2 0, 8, .inl spa)), (ro 5, .inl (Y.2 0, 12, .inl pro)), (ro 6, .inl (Y.2 0, 12, .inl bes)), (ro 7, .inl (Y.2 1, 12, .inl isr)), (ro 8, .inl (Y.2 0, 64, .inl key)), (ro 9, .inl (Y.2 0, 64, .inl lev)), (ro 10, .inl (Y.2 0, 4, .inl kvi)), (ro 11, .inl (Y.2 0, 4, .inl ksz)), (ro 12, .inl (Y.2 0, 4, .inl krt)), (ro 13, .inl (Y.2 1, 4, .inl ala)), (ro 14, .inl (Y.2 0, 4, .inl fol)), (ro 15, .inl (Y.2 0, 4, .inl cts))] _ := (th_join (wr := [(ro 1, .inl (Y.2 0, 300, .inl val)), (ro 2, .inl (Y.2 0, 3, .inl siz)), (ro 3, .inl (Y.2 0, 8, .inl tre)), (ro 4, .inl (Y.2 0, 8, .inl spa)), (ro 5, .inl (Y.2 0, 12, .inl pro)), (ro 6, .inl (Y.2 0, 12, .inl bes)), (ro 7, .inl (Y.2 1, 12, .inl isr)), (ro 8, .inl (Y.2 0, 64, .inl key)), (ro 9, .inl (Y.2 0, 64, .inl lev)), (ro 10, .inl (Y.2 0, 4, .inl kvi)), (ro 11, .inl (Y.2 0, 4, .inl ksz)), (ro 12, .inl (Y.2 0, 4, .inl krt)), (ro 13, .inl (Y.2 1, 4, .inl ala)), (ro 14, .inl (Y.2 0, 4, .inl fol)), (ro 15, .inl (Y.2 0, 4, .inl cts))]) hP hD [1, 2, 3, 4, 5, 6, 7, 8, 9, 10, 11, 12, 13, 14, 15] [0] rfl rfl (by decide) hsm hPc).sub [15, 0, 1, 2, 3, 4, 5, 6, 7, 8, 9, 10, 11, 12, 13, 14] rfl
    have hD : va_D _ [(ro 0, .inr (6, [.int (nI 2), .ref (ro 1), .ref (ro 2), .int (nI S.1), .ref (ro 3), .ref (ro 4), .ref (ro 5), .int (nI S.2.2.2.1), .ref (ro 6), .ref (ro 7), .int stp, .int efr, .int esz, .int etr, .ref (ro 8), .ref (ro 9), .ref (ro 10), .ref (ro 11), .ref (ro 12), .ref (ro 13), .ref (ro 14), .ref (ro 15)])), (ro 1, .inl (Y.2 0, 300, .inl val)), (ro 2, .inl (Y.2 0, 3, .inl siz)), (ro 3, .inl (Y.2 0, 8, .inl tre)), (ro 4, .inl (Y.2 0, 8, .inl spa)), (ro 5, .inl (Y.2 0, 12, .inl pro)), (ro 6, .inl (Y.2 0, 12, .inl bes)), (ro 7, .inl (Y.2 1, 12, .inl isr)), (ro 8, .inl (Y.2 0, 64, .inl key)), (ro 9, .inl (Y.2 0, 64, .inl lev)), (ro 10, .inl (Y.2 0, 4, .inl kvi)), (ro 11, .inl (Y.2 0, 4, .inl ksz)), (ro 12, .inl (Y.2 0, 4, .inl krt)), (ro 13, .inl (Y.2 1, 4, .inl ala)), (ro 14, .inl (Y.2 0, 4, .inl fol)), (ro 15, .inl (Y.2 0, 4, .inl cts))] := th_Dsame hD rfl
    obtain rfl : rz9 = nI 0 := by rw [hrz]; rfl
    refine th_zne (tgt := 75) hx hb dX6_testLeaf_70 (by decide) (by omega) (fun c_32 => by exfalso; omega) (fun c_32 => ?_)
    refine lv_iconst (v := nI 0) hx hb dX6_testLeaf_73 (by decide) ?_
    refine th_zret hx hb hr hlk hQ hS dX6_testLeaf_74 (Nat.le_of_ble_eq_true rfl) (Nat.le_of_ble_eq_true rfl) (by first | exact Or.inl rfl | exact Or.inr rfl | assumption | exact th_b01 _) ?_
    show th_ro Y ro (_) _ _
    unfold sp_testLeaf
    simp only [th_qL, th_qG, zj1]
    rw [th_ifT q1, th_ifF (fun z9 => q2 z9.1)]
    exact th_roF (by decide) (th_rgI hP hv)
    
  refine th_ti (th_bF q1) ?_
  refine th_zeq (tgt := 41) hx hb dX6_testLeaf_5 (by decide) (by omega) (fun c_33 => ?_) (fun c_33 => by exfalso; omega)
  refine lv_iconst (v := nI 0) hx hb dX6_testLeaf_41 (by decide) ?_
  refine lv_istore (lv' := [(5, .int (nI 0)), (0, .ref (ro 0)), (1, .int x1), (2, .int x2), (3, .int x3), (4, .int x4)]) hx hb dX6_testLeaf_42 hl (by decide) rfl (fun ls hl => ?_)
  refine lv_aload_n hx hb dX6_testLeaf_44 rfl (lv_at hl 1 rfl) ?_
  refine lv_aload_n hx hb dX6_testLeaf_45 rfl (lv_at hl 1 rfl) ?_
  refine lv_iload_n hx hb dX6_testLeaf_46 rfl (lv_at hl 2 rfl) ?_
  refine th_callV hx hb hml hown hts ⟨hK, hN⟩ hl hS (hP 0 _ rfl) rfl (rest := [.ref (ro 0)]) (c_X6_isView l Y _ ro thr stp efr esz etr S.1 S.2.2.2.1 (hP.sub (ws' := [(ro 0, .inr (6, [.int thr, .ref (ro 1), .ref (ro 2), .int (nI S.1), .ref (ro 3), .ref (ro 4), .ref (ro 5), .int (nI S.2.2.2.1), .ref (ro 6), .ref (ro 7), .int stp, .int efr, .int esz, .int etr, .ref (ro 8), .ref (ro 9), .ref (ro 10), .ref (ro 11), .ref (ro 12), .ref (ro 13), .ref (ro 14), .ref (ro 15)]))]) [0] rfl) (by omega) (by omega) x1) ok_X6_isView tw_3_230 dX6_testLeaf_47 rfl rfl (Nat.le_of_ble_eq_true rfl) ⟨Nat.le_of_ble_eq_true rfl, Nat.le_of_ble_eq_true rfl⟩ ⟨Nat.le_of_ble_eq_true rfl, Nat.le_of_ble_eq_true rfl⟩ (fun _ h => h.elim) (th_kpi (fun locs hS => ?_))
  refine th_ti (th_bF q1) ?_
  refine th_zne (tgt := 57) hx hb dX6_testLeaf_50 (by decide) (by omega) (fun c_34 => by exfalso; omega) (fun c_34 => ?_)
  refine lv_iconst (v := nI 1) hx hb dX6_testLeaf_53 (by decide) ?_
  refine lv_goto (tgt := 67) hx hb dX6_testLeaf_54 (by decide) ?_
  refine th_callV hx hb hml hown hts ⟨hK, hN⟩ hl hS (hP 0 _ rfl) rfl (rest := []) (c_X6_goesWell l Y _ ro thr stp efr esz etr S.1 S.2.2.2.1 (hP.sub (ws' := [(ro 0, .inr (6, [.int thr, .ref (ro 1), .ref (ro 2), .int (nI S.1), .ref (ro 3), .ref (ro 4), .ref (ro 5), .int (nI S.2.2.2.1), .ref (ro 6), .ref (ro 7), .int stp, .int efr, .int esz, .int etr, .ref (ro 8), .ref (ro 9), .ref (ro 10), .ref (ro 11), .ref (ro 12), .ref (ro 13), .ref (ro 14), .ref (ro 15)]))]) [0] rfl) 1 (by omega)) ok_X6_goesWell tw_4_1 dX6_testLeaf_67 rfl rfl (Nat.le_of_ble_eq_true rfl) ⟨Nat.le_of_ble_eq_true rfl, Nat.le_of_ble_eq_true rfl⟩ ⟨Nat.le_of_ble_eq_true rfl, Nat.le_of_ble_eq_true rfl⟩ (th_subL [0] rfl) (th_ki (fun rz9 H locs hp hsm hS => ?_))
  obtain ⟨hrz, hPc⟩ := hp
  have hP : va_P Y.1 vwCl [(ro 0, .inr (6, [.int (nI 1), .ref (ro 1), .ref (ro 2), .int (nI S.1), .ref (ro 3), .ref (ro 4), .ref (ro 5), .int (nI S.2.2.2.1), .ref (ro 6), .ref (ro 7), .int stp, .int efr, .int esz, .int etr, .ref (ro 8), .ref (ro 9), .ref (ro 10), .ref (ro 11), .ref (ro 12), .ref (ro 13), .ref (ro 14), .ref (ro 15)])), (ro 1, .inl (Y.2 0, 300, .inl val)), (ro 2, .inl (Y.2 0, 3, .inl siz)), (ro 3, .inl (Y.2 0, 8, .inl tre)), (ro 4, .inl (Y.2 0, 8, .inl spa)), (ro 5, .inl (Y.2 0, 12, .inl pro)), (ro 6, .inl (Y.2 0, 12, .inl bes)), (ro 7, .inl (Y.2 1, 12, .inl isr)), (ro 8, .inl (Y.2 0, 64, .inl key)), (ro 9, .inl (Y.2 0, 64, .inl lev)), (ro 10, .inl (Y.2 0, 4, .inl kvi)), (ro 11, .inl (Y.2 0, 4, .inl ksz)), (ro 12, .inl (Y.2 0, 4, .inl krt)), (ro 13, .inl (Y.2 1, 4, .inl ala)), (ro 14, .inl (Y.2 0, 4, .inl fol)), (ro 15, .inl (Y.2 0, 4, .inl cts))] _ := (th_join (wr := [(ro 1, .inl (Y.2 0, 300, .inl val)), (ro 2, .inl (Y.2 0, 3, .inl siz)), (ro 3, .inl (Y.2 0, 8, .inl tre)), (ro 4, .inl (Y.2 0, 8, .inl spa)), (ro 5, .inl (Y.2 0, 12, .inl pro)), (ro 6, .inl (Y.2 0, 12, .inl bes)), (ro 7, .inl (Y.2 1, 12, .inl isr)), (ro 8, .inl (Y.2 0, 64, .inl key)), (ro 9, .inl (Y.2 0, 64, .inl lev)), (ro 10, .inl (Y.2 0, 4, .inl kvi)), (ro 11, .inl (Y.2 0, 4, .inl ksz)), (ro 12, .inl (Y.2 0, 4, .inl krt)), (ro 13, .inl (Y.2 1, 4, .inl ala)), (ro 14, .inl (Y.2 0, 4, .inl fol)), (ro 15, .inl (Y.2 0, 4, .inl cts))]) hP hD [1, 2, 3, 4, 5, 6, 7, 8, 9, 10, 11, 12, 13, 14, 15] [0] rfl rfl (by decide) hsm hPc).sub [15, 0, 1, 2, 3, 4, 5, 6, 7, 8, 9, 10, 11, 12, 13, 14] rfl
  have hD : va_D _ [(ro 0, .inr (6, [.int (nI 1), .ref (ro 1), .ref (ro 2), .int (nI S.1), .ref (ro 3), .ref (ro 4), .ref (ro 5), .int (nI S.2.2.2.1), .ref (ro 6), .ref (ro 7), .int stp, .int efr, .int esz, .int etr, .ref (ro 8), .ref (ro 9), .ref (ro 10), .ref (ro 11), .ref (ro 12), .ref (ro 13), .ref (ro 14), .ref (ro 15)])), (ro 1, .inl (Y.2 0, 300, .inl val)), (ro 2, .inl (Y.2 0, 3, .inl siz)), (ro 3, .inl (Y.2 0, 8, .inl tre)), (ro 4, .inl (Y.2 0, 8, .inl spa)), (ro 5, .inl (Y.2 0, 12, .inl pro)), (ro 6, .inl (Y.2 0, 12, .inl bes)), (ro 7, .inl (Y.2 1, 12, .inl isr)), (ro 8, .inl (Y.2 0, 64, .inl key)), (ro 9, .inl (Y.2 0, 64, .inl lev)), (ro 10, .inl (Y.2 0, 4, .inl kvi)), (ro 11, .inl (Y.2 0, 4, .inl ksz)), (ro 12, .inl (Y.2 0, 4, .inl krt)), (ro 13, .inl (Y.2 1, 4, .inl ala)), (ro 14, .inl (Y.2 0, 4, .inl fol)), (ro 15, .inl (Y.2 0, 4, .inl cts))] := th_Dsame hD rfl
  obtain rfl : rz9 = nI 0 := by rw [hrz]; rfl
  refine th_zne (tgt := 75) hx hb dX6_testLeaf_70 (by decide) (by omega) (fun c_35 => by exfalso; omega) (fun c_35 => ?_)
  refine lv_iconst (v := nI 0) hx hb dX6_testLeaf_73 (by decide) ?_
  refine th_zret hx hb hr hlk hQ hS dX6_testLeaf_74 (Nat.le_of_ble_eq_true rfl) (Nat.le_of_ble_eq_true rfl) (by first | exact Or.inl rfl | exact Or.inr rfl | assumption | exact th_b01 _) ?_
  show th_ro Y ro (_) _ _
  unfold sp_testLeaf
  simp only [th_qL, th_qG]
  rw [th_ifF (fun z9 => q1 z9)]
  exact th_roF (by decide) (th_rgI hP hv)
  

set_option maxRecDepth 100000 in
set_option maxHeartbeats 800000 in
theorem c_X6_testGrowth (l : Launch) (Y : th_Y) (H0 : Heap) (ro : Nat → Nat) (hJ : th_gJ ro 16) (S : th_S) (thr stp efr esz etr : Int32) (val siz tre spa pro bes isr key lev kvi ksz krt ala fol cts : Nat → Int32) (hP : va_P Y.1 vwCl [(ro 0, .inr (6, [.int thr, .ref (ro 1), .ref (ro 2), .int (nI S.1), .ref (ro 3), .ref (ro 4), .ref (ro 5), .int (nI S.2.2.2.1), .ref (ro 6), .ref (ro 7), .int stp, .int efr, .int esz, .int etr, .ref (ro 8), .ref (ro 9), .ref (ro 10), .ref (ro 11), .ref (ro 12), .ref (ro 13), .ref (ro 14), .ref (ro 15)])), (ro 1, .inl (Y.2 0, 300, .inl val)), (ro 2, .inl (Y.2 0, 3, .inl siz)), (ro 3, .inl (Y.2 0, 8, .inl tre)), (ro 4, .inl (Y.2 0, 8, .inl spa)), (ro 5, .inl (Y.2 0, 12, .inl pro)), (ro 6, .inl (Y.2 0, 12, .inl bes)), (ro 7, .inl (Y.2 1, 12, .inl isr)), (ro 8, .inl (Y.2 0, 64, .inl key)), (ro 9, .inl (Y.2 0, 64, .inl lev)), (ro 10, .inl (Y.2 0, 4, .inl kvi)), (ro 11, .inl (Y.2 0, 4, .inl ksz)), (ro 12, .inl (Y.2 0, 4, .inl krt)), (ro 13, .inl (Y.2 1, 4, .inl ala)), (ro 14, .inl (Y.2 0, 4, .inl fol)), (ro 15, .inl (Y.2 0, 4, .inl cts))] H0) (hv : th_RIv S val siz pro key kvi ksz krt ala fol cts) (x1 x2 x3 x4 : Int32) : th_M l Y yX6_testGrowth cX6_testGrowth 13 (some .boolean) (th_rm 6 0 0) [.ref (ro 0), .int x1, .int x2, .int x3, .int x4] H0 (fun z => z ∈ [ro 0, ro 1, ro 2, ro 3, ro 4, ro 5, ro 6, ro 7, ro 8, ro 9, ro 10, ro 11, ro 12, ro 13, ro 14, ro 15]) (th_ro Y ro (sp_testGrowth S x1 x2 x3 x4)) := by
  refine th_M.intro (by decide) (Nat.le_of_ble_eq_true rfl) ?_
  intro p e s m args below meth c ls Q hQ C hKN hl hS
  obtain ⟨hx, hb, hr, hml, hown, hts, hlk, hnm⟩ := C
  obtain ⟨hK, hN⟩ := hKN
  have hown : s.vm.findClass RX6 = some m.cls := hown
  have hl : lv_has ls 13 [(0, .ref (ro 0)), (1, .int x1), (2, .int x2), (3, .int x3), (4, .int x4)] := hl
  have hD : va_D (fun z => z ∈ [ro 0, ro 1, ro 2, ro 3, ro 4, ro 5, ro 6, ro 7, ro 8, ro 9, ro 10, ro 11, ro 12, ro 13, ro 14, ro 15]) [(ro 0, .inr (6, [.int thr, .ref (ro 1), .ref (ro 2), .int (nI S.1), .ref (ro 3), .ref (ro 4), .ref (ro 5), .int (nI S.2.2.2.1), .ref (ro 6), .ref (ro 7), .int stp, .int efr, .int esz, .int etr, .ref (ro 8), .ref (ro 9), .ref (ro 10), .ref (ro 11), .ref (ro 12), .ref (ro 13), .ref (ro 14), .ref (ro 15)])), (ro 1, .inl (Y.2 0, 300, .inl val)), (ro 2, .inl (Y.2 0, 3, .inl siz)), (ro 3, .inl (Y.2 0, 8, .inl tre)), (ro 4, .inl (Y.2 0, 8, .inl spa)), (ro 5, .inl (Y.2 0, 12, .inl pro)), (ro 6, .inl (Y.2 0, 12, .inl bes)), (ro 7, .inl (Y.2 1, 12, .inl isr)), (ro 8, .inl (Y.2 0, 64, .inl key)), (ro 9, .inl (Y.2 0, 64, .inl lev)), (ro 10, .inl (Y.2 0, 4, .inl kvi)), (ro 11, .inl (Y.2 0, 4, .inl ksz)), (ro 12, .inl (Y.2 0, 4, .inl krt)), (ro 13, .inl (Y.2 1, 4, .inl ala)), (ro 14, .inl (Y.2 0, 4, .inl fol)), (ro 15, .inl (Y.2 0, 4, .inl cts))] := th_mem (th_gD hJ [0, 1, 2, 3, 4, 5, 6, 7, 8, 9, 10, 11, 12, 13, 14, 15] (fun k9 hk9 => by simp only [List.mem_cons, List.not_mem_nil, or_false] at hk9; omega) th_nd16 rfl)
  have hv1 := hv.1
  have hv12 := hv.2.2.1
  refine lv_aload_n hx hb dX6_testGrowth_0 rfl (lv_at hl 0 rfl) ?_
  refine lv_iload_n hx hb dX6_testGrowth_1 rfl (lv_at hl 1 rfl) ?_
  refine th_callV hx hb hml hown hts ⟨hK, hN⟩ hl hS (hP 0 _ rfl) rfl (rest := []) (c_X6_isView l Y _ ro thr stp efr esz etr S.1 S.2.2.2.1 (hP.sub (ws' := [(ro 0, .inr (6, [.int thr, .ref (ro 1), .ref (ro 2), .int (nI S.1), .ref (ro 3), .ref (ro 4), .ref (ro 5), .int (nI S.2.2.2.1), .ref (ro 6), .ref (ro 7), .int stp, .int efr, .int esz, .int etr, .ref (ro 8), .ref (ro 9), .ref (ro 10), .ref (ro 11), .ref (ro 12), .ref (ro 13), .ref (ro 14), .ref (ro 15)]))]) [0] rfl) (by omega) (by omega) x1) ok_X6_isView tw_3_230 dX6_testGrowth_2 rfl rfl (Nat.le_of_ble_eq_true rfl) ⟨Nat.le_of_ble_eq_true rfl, Nat.le_of_ble_eq_true rfl⟩ ⟨Nat.le_of_ble_eq_true rfl, Nat.le_of_ble_eq_true rfl⟩ (fun _ h => h.elim) (th_kpi (fun locs hS => ?_))
  by_cases q1 : th_ir x1 0 S.1
  · refine th_ti (th_bT q1) ?_
    have uq9 := q1
    obtain ⟨j1, j1a, j1b, ux9⟩ := uq9
    subst ux9
    have zj1 : th_ix (nI j1) = j1 := th_ixN (by omega)
    obtain ⟨hn1, hs1, hf1⟩ := hv.2.1 j1 j1b
    refine th_zeq (tgt := 20) hx hb dX6_testGrowth_5 (by decide) (by omega) (fun c_1 => by exfalso; omega) (fun c_1 => ?_)
    refine lv_aload_n hx hb dX6_testGrowth_8 rfl (lv_at hl 0 rfl) ?_
    refine lv_iload_n hx hb dX6_testGrowth_9 rfl (lv_at hl 3 rfl) ?_
    refine th_callV hx hb hml hown hts ⟨hK, hN⟩ hl hS (hP 0 _ rfl) rfl (rest := []) (c_X6_isView l Y _ ro thr stp efr esz etr S.1 S.2.2.2.1 (hP.sub (ws' := [(ro 0, .inr (6, [.int thr, .ref (ro 1), .ref (ro 2), .int (nI S.1), .ref (ro 3), .ref (ro 4), .ref (ro 5), .int (nI S.2.2.2.1), .ref (ro 6), .ref (ro 7), .int stp, .int efr, .int esz, .int etr, .ref (ro 8), .ref (ro 9), .ref (ro 10), .ref (ro 11), .ref (ro 12), .ref (ro 13), .ref (ro 14), .ref (ro 15)]))]) [0] rfl) (by omega) (by omega) x3) ok_X6_isView tw_3_230 dX6_testGrowth_10 rfl rfl (Nat.le_of_ble_eq_true rfl) ⟨Nat.le_of_ble_eq_true rfl, Nat.le_of_ble_eq_true rfl⟩ ⟨Nat.le_of_ble_eq_true rfl, Nat.le_of_ble_eq_true rfl⟩ (fun _ h => h.elim) (th_kpi (fun locs hS => ?_))
    by_cases q3 : th_ir x3 0 S.1
    · refine th_ti (th_bT q3) ?_
      have uq9 := q3
      obtain ⟨j3, j3a, j3b, ux9⟩ := uq9
      subst ux9
      have zj3 : th_ix (nI j3) = j3 := th_ixN (by omega)
      obtain ⟨hn3, hs3, hf3⟩ := hv.2.1 j3 j3b
      refine th_zeq (tgt := 20) hx hb dX6_testGrowth_13 (by decide) (by omega) (fun c_2 => by exfalso; omega) (fun c_2 => ?_)
      refine lv_iconst (v := nI 1) hx hb dX6_testGrowth_16 (by decide) ?_
      refine lv_goto (tgt := 21) hx hb dX6_testGrowth_17 (by decide) ?_
      refine lv_istore (lv' := [(5, .int (nI 1)), (0, .ref (ro 0)), (1, .int (nI j1)), (2, .int x2), (3, .int (nI j3)), (4, .int x4)]) hx hb dX6_testGrowth_21 hl (by decide) rfl (fun ls hl => ?_)
      refine lv_iload hx hb dX6_testGrowth_23 (lv_at hl 0 rfl) ?_
      refine th_zeq (tgt := 62) hx hb dX6_testGrowth_25 (by decide) (by omega) (fun c_3 => by exfalso; omega) (fun c_3 => ?_)
      refine lv_aload_n hx hb dX6_testGrowth_28 rfl (lv_at hl 1 rfl) ?_
      refine lv_iload_n hx hb dX6_testGrowth_29 rfl (lv_at hl 4 rfl) ?_
      refine lv_iload hx hb dX6_testGrowth_30 (lv_at hl 5 rfl) ?_
      refine th_callV hx hb hml hown hts ⟨hK, hN⟩ hl hS (hP 0 _ rfl) rfl (rest := []) (c_X6_isSize l Y _ ro thr stp efr esz etr S.1 S.2.2.2.1 siz (hP.sub (ws' := [(ro 0, .inr (6, [.int thr, .ref (ro 1), .ref (ro 2), .int (nI S.1), .ref (ro 3), .ref (ro 4), .ref (ro 5), .int (nI S.2.2.2.1), .ref (ro 6), .ref (ro 7), .int stp, .int efr, .int esz, .int etr, .ref (ro 8), .ref (ro 9), .ref (ro 10), .ref (ro 11), .ref (ro 12), .ref (ro 13), .ref (ro 14), .ref (ro 15)])), (ro 2, .inl (Y.2 0, 3, .inl siz))]) [0, 2] rfl) j3 (S.2.1 j3) (by omega) hs3 hn3 x4) ok_X6_isSize tw_4_54 dX6_testGrowth_32 rfl rfl (Nat.le_of_ble_eq_true rfl) ⟨Nat.le_of_ble_eq_true rfl, Nat.le_of_ble_eq_true rfl⟩ ⟨Nat.le_of_ble_eq_true rfl, Nat.le_of_ble_eq_true rfl⟩ (fun _ h => h.elim) (th_kpi (fun locs hS => ?_))
      by_cases q4 : th_ir x4 1 (S.2.1 j3 + 1)
      · refine th_ti (th_bT q4) ?_
        have uq9 := q4
        obtain ⟨j4, j4a, j4b, ux9⟩ := uq9
        subst ux9
        have zj4 : th_ix (nI j4) = j4 := th_ixN (by omega)
        refine th_zeq (tgt := 62) hx hb dX6_testGrowth_35 (by decide) (by omega) (fun c_4 => by exfalso; omega) (fun c_4 => ?_)
        refine lv_iload_n hx hb dX6_testGrowth_38 rfl (lv_at hl 3 rfl) ?_
        refine lv_iconst (v := nI 1) hx hb dX6_testGrowth_39 (by decide) ?_
        refine lv_iload hx hb dX6_testGrowth_40 (lv_at hl 5 rfl) ?_
        refine th_callS hx hb hml hown hts ⟨hK, hN⟩ hl hS (rest := []) (c_X6_in l Y _ x2 (nI 1) (nI j4)) ok_X6_in tw_3_234 dX6_testGrowth_42 rfl rfl (Nat.le_of_ble_eq_true rfl) ⟨Nat.le_of_ble_eq_true rfl, Nat.le_of_ble_eq_true rfl⟩ ⟨Nat.le_of_ble_eq_true rfl, Nat.le_of_ble_eq_true rfl⟩ (fun _ h => h.elim) (th_kpi (fun locs hS => ?_))
        refine th_ti (th_bE (th_irP (by decide) (by omega))) ?_
        by_cases q2 : th_ir x2 1 (j4 + 1)
        · refine th_ti (th_bT q2) ?_
          have uq9 := q2
          obtain ⟨j2, j2a, j2b, ux9⟩ := uq9
          subst ux9
          have zj2 : th_ix (nI j2) = j2 := th_ixN (by omega)
          refine th_zeq (tgt := 62) hx hb dX6_testGrowth_45 (by decide) (by omega) (fun c_5 => by exfalso; omega) (fun c_5 => ?_)
          refine lv_iload_n hx hb dX6_testGrowth_48 rfl (lv_at hl 3 rfl) ?_
          refine lv_aload_n hx hb dX6_testGrowth_49 rfl (lv_at hl 1 rfl) ?_
          refine va_get (D := Y.1) (ci := 6) (v := .ref (ro 2)) (C := RX6) (T := TX6) (N := 22) hx hb hts inX6 hown hK hP 0 rfl rfl 2 (by decide) (hts _ tw_3_157) (fun _ h9 => h9) rfl dX6_testGrowth_50 ?_
          refine lv_iload_n hx hb dX6_testGrowth_53 rfl (lv_at hl 2 rfl) ?_
          refine th_iald hx hb hK hP 2 rfl (j := j1) (by omega) (by omega) dX6_testGrowth_54 ?_
          refine th_ti (show siz j1 = nI (S.2.1 j1) from hs1) ?_
          refine th_igt (tgt := 62) hx hb dX6_testGrowth_55 (by decide) (by omega) (by omega) (fun c_6 => ?_) (fun c_6 => ?_)
          · skip
            have q6 : ¬ th_ir (nI j2) 1 (S.2.1 j1 + 1) := fun z9 => by have z8 := th_irI (by omega) (by omega) z9; omega
            refine lv_iconst (v := nI 0) hx hb dX6_testGrowth_62 (by decide) ?_
            refine lv_istore (lv' := [(6, .int (nI 0)), (5, .int (nI 1)), (0, .ref (ro 0)), (1, .int (nI j1)), (2, .int (nI j2)), (3, .int (nI j3)), (4, .int (nI j4))]) hx hb dX6_testGrowth_63 hl (by decide) rfl (fun ls hl => ?_)
            refine lv_aload_n hx hb dX6_testGrowth_65 rfl (lv_at hl 2 rfl) ?_
            refine lv_iload hx hb dX6_testGrowth_66 (lv_at hl 1 rfl) ?_
            refine th_zne (tgt := 75) hx hb dX6_testGrowth_68 (by decide) (by omega) (fun c_7 => ?_) (fun c_7 => by exfalso; omega)
            refine lv_iload hx hb dX6_testGrowth_75 (lv_at hl 0 rfl) ?_
            refine th_zeq (tgt := 84) hx hb dX6_testGrowth_77 (by decide) (by omega) (fun c_8 => ?_) (fun c_8 => by exfalso; omega)
            refine lv_iconst (v := nI 2) hx hb dX6_testGrowth_84 (by decide) ?_
            refine th_callV hx hb hml hown hts ⟨hK, hN⟩ hl hS (hP 0 _ rfl) rfl (rest := []) (c_X6_goesWell l Y _ ro thr stp efr esz etr S.1 S.2.2.2.1 (hP.sub (ws' := [(ro 0, .inr (6, [.int thr, .ref (ro 1), .ref (ro 2), .int (nI S.1), .ref (ro 3), .ref (ro 4), .ref (ro 5), .int (nI S.2.2.2.1), .ref (ro 6), .ref (ro 7), .int stp, .int efr, .int esz, .int etr, .ref (ro 8), .ref (ro 9), .ref (ro 10), .ref (ro 11), .ref (ro 12), .ref (ro 13), .ref (ro 14), .ref (ro 15)]))]) [0] rfl) 2 (by omega)) ok_X6_goesWell tw_4_1 dX6_testGrowth_85 rfl rfl (Nat.le_of_ble_eq_true rfl) ⟨Nat.le_of_ble_eq_true rfl, Nat.le_of_ble_eq_true rfl⟩ ⟨Nat.le_of_ble_eq_true rfl, Nat.le_of_ble_eq_true rfl⟩ (th_subL [0] rfl) (th_ki (fun rz9 H locs hp hsm hS => ?_))
            obtain ⟨hrz, hPc⟩ := hp
            have hP : va_P Y.1 vwCl [(ro 0, .inr (6, [.int (nI 2), .ref (ro 1), .ref (ro 2), .int (nI S.1), .ref (ro 3), .ref (ro 4), .ref (ro 5), .int (nI S.2.2.2.1), .ref (ro 6), .ref (ro 7), .int stp, .int efr, .int esz, .int etr, .ref (ro 8), .ref (ro 9), .ref (ro 10), .ref (ro 11), .ref (ro 12), .ref (ro 13), .ref (ro 14), .ref (ro 15)])), (ro 1, .inl (Y.2 0, 300, .inl val)), (ro 2, .inl (Y.2 0, 3, .inl siz)), (ro 3, .inl (Y.2 0, 8, .inl tre)), (ro 4, .inl (Y.2 0, 8, .inl spa)), (ro 5, .inl (Y.2 0, 12, .inl pro)), (ro 6, .inl (Y.2 0, 12, .inl bes)), (ro 7, .inl (Y.2 1, 12, .inl isr)), (ro 8, .inl (Y.2 0, 64, .inl key)), (ro 9, .inl (Y.2 0, 64, .inl lev)), (ro 10, .inl (Y.2 0, 4, .inl kvi)), (ro 11, .inl (Y.2 0, 4, .inl ksz)), (ro 12, .inl (Y.2 0, 4, .inl krt)), (ro 13, .inl (Y.2 1, 4, .inl ala)), (ro 14, .inl (Y.2 0, 4, .inl fol)), (ro 15, .inl (Y.2 0, 4, .inl cts))] _ := (th_join (wr := [(ro 1, .inl (Y.2 0, 300, .inl val)), (ro 2, .inl (Y.2 0, 3, .inl siz)), (ro 3, .inl (Y.2 0, 8, .inl tre)), (ro 4, .inl (Y.2 0, 8, .inl spa)), (ro 5, .inl (Y.2 0, 12, .inl pro)), (ro 6, .inl (Y.2 0, 12, .inl bes)), (ro 7, .inl (Y.2 1, 12, .inl isr)), (ro 8, .inl (Y.2 0, 64, .inl key)), (ro 9, .inl (Y.2 0, 64, .inl lev)), (ro 10, .inl (Y.2 0, 4, .inl kvi)), (ro 11, .inl (Y.2 0, 4, .inl ksz)), (ro 12, .inl (Y.2 0, 4, .inl krt)), (ro 13, .inl (Y.2 1, 4, .inl ala)), (ro 14, .inl (Y.2 0, 4, .inl fol)), (ro 15, .inl (Y.2 0, 4, .inl cts))]) hP hD [1, 2, 3, 4, 5, 6, 7, 8, 9, 10, 11, 12, 13, 14, 15] [0] rfl rfl (by decide) hsm hPc).sub [15, 0, 1, 2, 3, 4, 5, 6, 7, 8, 9, 10, 11, 12, 13, 14] rfl
            have hD : va_D _ [(ro 0, .inr (6, [.int (nI 2), .ref (ro 1), .ref (ro 2), .int (nI S.1), .ref (ro 3), .ref (ro 4), .ref (ro 5), .int (nI S.2.2.2.1), .ref (ro 6), .ref (ro 7), .int stp, .int efr, .int esz, .int etr, .ref (ro 8), .ref (ro 9), .ref (ro 10), .ref (ro 11), .ref (ro 12), .ref (ro 13), .ref (ro 14), .ref (ro 15)])), (ro 1, .inl (Y.2 0, 300, .inl val)), (ro 2, .inl (Y.2 0, 3, .inl siz)), (ro 3, .inl (Y.2 0, 8, .inl tre)), (ro 4, .inl (Y.2 0, 8, .inl spa)), (ro 5, .inl (Y.2 0, 12, .inl pro)), (ro 6, .inl (Y.2 0, 12, .inl bes)), (ro 7, .inl (Y.2 1, 12, .inl isr)), (ro 8, .inl (Y.2 0, 64, .inl key)), (ro 9, .inl (Y.2 0, 64, .inl lev)), (ro 10, .inl (Y.2 0, 4, .inl kvi)), (ro 11, .inl (Y.2 0, 4, .inl ksz)), (ro 12, .inl (Y.2 0, 4, .inl krt)), (ro 13, .inl (Y.2 1, 4, .inl ala)), (ro 14, .inl (Y.2 0, 4, .inl fol)), (ro 15, .inl (Y.2 0, 4, .inl cts))] := th_Dsame hD rfl
            obtain rfl : rz9 = nI 0 := by rw [hrz]; rfl
            refine th_zne (tgt := 93) hx hb dX6_testGrowth_88 (by decide) (by omega) (fun c_9 => by exfalso; omega) (fun c_9 => ?_)
            refine lv_iconst (v := nI 0) hx hb dX6_testGrowth_91 (by decide) ?_
            refine th_zret hx hb hr hlk hQ hS dX6_testGrowth_92 (Nat.le_of_ble_eq_true rfl) (Nat.le_of_ble_eq_true rfl) (by first | exact Or.inl rfl | exact Or.inr rfl | assumption | exact th_b01 _) ?_
            show th_ro Y ro (_) _ _
            unfold sp_testGrowth
            simp only [th_qL, th_qG, zj1, zj3, zj4, zj2]
            rw [th_ifT ⟨q1, q3⟩, th_ifF (fun z9 => q6 z9.2.2)]
            exact th_roF (by decide) (th_rgI hP hv)
            
          have q6 : th_ir (nI j2) 1 (S.2.1 j1 + 1) := th_irN (by omega) (by omega)
          refine lv_iconst (v := nI 1) hx hb dX6_testGrowth_58 (by decide) ?_
          refine lv_goto (tgt := 63) hx hb dX6_testGrowth_59 (by decide) ?_
          refine lv_istore (lv' := [(6, .int (nI 1)), (5, .int (nI 1)), (0, .ref (ro 0)), (1, .int (nI j1)), (2, .int (nI j2)), (3, .int (nI j3)), (4, .int (nI j4))]) hx hb dX6_testGrowth_63 hl (by decide) rfl (fun ls hl => ?_)
          refine lv_aload_n hx hb dX6_testGrowth_65 rfl (lv_at hl 2 rfl) ?_
          refine lv_iload hx hb dX6_testGrowth_66 (lv_at hl 1 rfl) ?_
          refine th_zne (tgt := 75) hx hb dX6_testGrowth_68 (by decide) (by omega) (fun c_10 => ?_) (fun c_10 => by exfalso; omega)
          refine lv_iload hx hb dX6_testGrowth_75 (lv_at hl 0 rfl) ?_
          refine th_zeq (tgt := 84) hx hb dX6_testGrowth_77 (by decide) (by omega) (fun c_11 => by exfalso; omega) (fun c_11 => ?_)
          refine lv_iconst (v := nI 0) hx hb dX6_testGrowth_80 (by decide) ?_
          refine lv_goto (tgt := 85) hx hb dX6_testGrowth_81 (by decide) ?_
          refine th_callV hx hb hml hown hts ⟨hK, hN⟩ hl hS (hP 0 _ rfl) rfl (rest := []) (c_X6_goesWell l Y _ ro thr stp efr esz etr S.1 S.2.2.2.1 (hP.sub (ws' := [(ro 0, .inr (6, [.int thr, .ref (ro 1), .ref (ro 2), .int (nI S.1), .ref (ro 3), .ref (ro 4), .ref (ro 5), .int (nI S.2.2.2.1), .ref (ro 6), .ref (ro 7), .int stp, .int efr, .int esz, .int etr, .ref (ro 8), .ref (ro 9), .ref (ro 10), .ref (ro 11), .ref (ro 12), .ref (ro 13), .ref (ro 14), .ref (ro 15)]))]) [0] rfl) 0 (by omega)) ok_X6_goesWell tw_4_1 dX6_testGrowth_85 rfl rfl (Nat.le_of_ble_eq_true rfl) ⟨Nat.le_of_ble_eq_true rfl, Nat.le_of_ble_eq_true rfl⟩ ⟨Nat.le_of_ble_eq_true rfl, Nat.le_of_ble_eq_true rfl⟩ (th_subL [0] rfl) (th_ki (fun rz9 H locs hp hsm hS => ?_))
          obtain ⟨hrz, hPc⟩ := hp
          have hP : va_P Y.1 vwCl [(ro 0, .inr (6, [.int (nI 0), .ref (ro 1), .ref (ro 2), .int (nI S.1), .ref (ro 3), .ref (ro 4), .ref (ro 5), .int (nI S.2.2.2.1), .ref (ro 6), .ref (ro 7), .int stp, .int efr, .int esz, .int etr, .ref (ro 8), .ref (ro 9), .ref (ro 10), .ref (ro 11), .ref (ro 12), .ref (ro 13), .ref (ro 14), .ref (ro 15)])), (ro 1, .inl (Y.2 0, 300, .inl val)), (ro 2, .inl (Y.2 0, 3, .inl siz)), (ro 3, .inl (Y.2 0, 8, .inl tre)), (ro 4, .inl (Y.2 0, 8, .inl spa)), (ro 5, .inl (Y.2 0, 12, .inl pro)), (ro 6, .inl (Y.2 0, 12, .inl bes)), (ro 7, .inl (Y.2 1, 12, .inl isr)), (ro 8, .inl (Y.2 0, 64, .inl key)), (ro 9, .inl (Y.2 0, 64, .inl lev)), (ro 10, .inl (Y.2 0, 4, .inl kvi)), (ro 11, .inl (Y.2 0, 4, .inl ksz)), (ro 12, .inl (Y.2 0, 4, .inl krt)), (ro 13, .inl (Y.2 1, 4, .inl ala)), (ro 14, .inl (Y.2 0, 4, .inl fol)), (ro 15, .inl (Y.2 0, 4, .inl cts))] _ := (th_join (wr := [(ro 1, .inl (Y.2 0, 300, .inl val)), (ro 2, .inl (Y.2 0, 3, .inl siz)), (ro 3, .inl (Y.2 0, 8, .inl tre)), (ro 4, .inl (Y.2 0, 8, .inl spa)), (ro 5, .inl (Y.2 0, 12, .inl pro)), (ro 6, .inl (Y.2 0, 12, .inl bes)), (ro 7, .inl (Y.2 1, 12, .inl isr)), (ro 8, .inl (Y.2 0, 64, .inl key)), (ro 9, .inl (Y.2 0, 64, .inl lev)), (ro 10, .inl (Y.2 0, 4, .inl kvi)), (ro 11, .inl (Y.2 0, 4, .inl ksz)), (ro 12, .inl (Y.2 0, 4, .inl krt)), (ro 13, .inl (Y.2 1, 4, .inl ala)), (ro 14, .inl (Y.2 0, 4, .inl fol)), (ro 15, .inl (Y.2 0, 4, .inl cts))]) hP hD [1, 2, 3, 4, 5, 6, 7, 8, 9, 10, 11, 12, 13, 14, 15] [0] rfl rfl (by decide) hsm hPc).sub [15, 0, 1, 2, 3, 4, 5, 6, 7, 8, 9, 10, 11, 12, 13, 14] rfl
          have hD : va_D _ [(ro 0, .inr (6, [.int (nI 0), .ref (ro 1), .ref (ro 2), .int (nI S.1), .ref (ro 3), .ref (ro 4), .ref (ro 5), .int (nI S.2.2.2.1), .ref (ro 6), .ref (ro 7), .int stp, .int efr, .int esz, .int etr, .ref (ro 8), .ref (ro 9), .ref (ro 10), .ref (ro 11), .ref (ro 12), .ref (ro 13), .ref (ro 14), .ref (ro 15)])), (ro 1, .inl (Y.2 0, 300, .inl val)), (ro 2, .inl (Y.2 0, 3, .inl siz)), (ro 3, .inl (Y.2 0, 8, .inl tre)), (ro 4, .inl (Y.2 0, 8, .inl spa)), (ro 5, .inl (Y.2 0, 12, .inl pro)), (ro 6, .inl (Y.2 0, 12, .inl bes)), (ro 7, .inl (Y.2 1, 12, .inl isr)), (ro 8, .inl (Y.2 0, 64, .inl key)), (ro 9, .inl (Y.2 0, 64, .inl lev)), (ro 10, .inl (Y.2 0, 4, .inl kvi)), (ro 11, .inl (Y.2 0, 4, .inl ksz)), (ro 12, .inl (Y.2 0, 4, .inl krt)), (ro 13, .inl (Y.2 1, 4, .inl ala)), (ro 14, .inl (Y.2 0, 4, .inl fol)), (ro 15, .inl (Y.2 0, 4, .inl cts))] := th_Dsame hD rfl
          obtain rfl : rz9 = nI 1 := by rw [hrz]; rfl
          refine th_zne (tgt := 93) hx hb dX6_testGrowth_88 (by decide) (by omega) (fun c_12 => ?_) (fun c_12 => by exfalso; omega)
          refine lv_aload_n hx hb dX6_testGrowth_93 rfl (lv_at hl 2 rfl) ?_
          refine lv_iload_n hx hb dX6_testGrowth_94 rfl (lv_at hl 5 rfl) ?_
          refine lv_iload_n hx hb dX6_testGrowth_95 rfl (lv_at hl 4 rfl) ?_
          refine lv_iload hx hb dX6_testGrowth_96 (lv_at hl 6 rfl) ?_
          have hin9 : th_in3 j4 (0, j4, j2 - 1) := ⟨(by omega : j2 - 1 < j4), (by omega : 0 + j4 ≤ j4), th_al_0 (by omega : j4 ≤ 128)⟩
          have hq9 : (0, j4, j2 - 1).2.1 ≤ 128 := (by omega : j4 ≤ 128)
          have hd8 := (th_rowsG hin9 hq9).1
          have hd9 := (th_rowsG hin9 hq9).2.1
          refine th_callV hx hb hml hown hts ⟨hK, hN⟩ hl hS (hP 0 _ rfl) rfl (rest := []) (c_X6_goToPart l Y _ ro hJ (nI 0) stp efr esz etr S.1 S.2.2.2.1 val siz tre spa pro bes isr key lev kvi ksz krt ala fol cts j3 j4 j2 hP (by omega) (by omega) (by omega) (by omega)) ok_X6_goToPart tw_4_77 dX6_testGrowth_98 rfl rfl (Nat.le_of_ble_eq_true rfl) ⟨Nat.le_of_ble_eq_true rfl, Nat.le_of_ble_eq_true rfl⟩ ⟨Nat.le_of_ble_eq_true rfl, Nat.le_of_ble_eq_true rfl⟩ (fun _ h9 => h9) (th_kv (fun H locs hp hsm hS => ?_))
          obtain ⟨etg, trg, spg, beg, isg, hPc, hRB, het⟩ := hp
          have hP : va_P Y.1 vwCl [(ro 0, .inr (6, [.int (nI 0), .ref (ro 1), .ref (ro 2), .int (nI S.1), .ref (ro 3), .ref (ro 4), .ref (ro 5), .int (nI S.2.2.2.1), .ref (ro 6), .ref (ro 7), .int (nI (th_dG (0, j4, j2 - 1))), .int (nI ((th_wa (0, j4, j2 - 1) (th_dG (0, j4, j2 - 1))).1)), .int (nI ((th_wa (0, j4, j2 - 1) (th_dG (0, j4, j2 - 1))).2.1)), .int etg, .ref (ro 8), .ref (ro 9), .ref (ro 10), .ref (ro 11), .ref (ro 12), .ref (ro 13), .ref (ro 14), .ref (ro 15)])), (ro 1, .inl (Y.2 0, 300, .inl val)), (ro 2, .inl (Y.2 0, 3, .inl siz)), (ro 3, .inl (Y.2 0, 8, .inl trg)), (ro 4, .inl (Y.2 0, 8, .inl spg)), (ro 5, .inl (Y.2 0, 12, .inl pro)), (ro 6, .inl (Y.2 0, 12, .inl beg)), (ro 7, .inl (Y.2 1, 12, .inl isg)), (ro 8, .inl (Y.2 0, 64, .inl key)), (ro 9, .inl (Y.2 0, 64, .inl lev)), (ro 10, .inl (Y.2 0, 4, .inl kvi)), (ro 11, .inl (Y.2 0, 4, .inl ksz)), (ro 12, .inl (Y.2 0, 4, .inl krt)), (ro 13, .inl (Y.2 1, 4, .inl ala)), (ro 14, .inl (Y.2 0, 4, .inl fol)), (ro 15, .inl (Y.2 0, 4, .inl cts))] _ := hPc
          have hD : va_D _ [(ro 0, .inr (6, [.int (nI 0), .ref (ro 1), .ref (ro 2), .int (nI S.1), .ref (ro 3), .ref (ro 4), .ref (ro 5), .int (nI S.2.2.2.1), .ref (ro 6), .ref (ro 7), .int (nI (th_dG (0, j4, j2 - 1))), .int (nI ((th_wa (0, j4, j2 - 1) (th_dG (0, j4, j2 - 1))).1)), .int (nI ((th_wa (0, j4, j2 - 1) (th_dG (0, j4, j2 - 1))).2.1)), .int etg, .ref (ro 8), .ref (ro 9), .ref (ro 10), .ref (ro 11), .ref (ro 12), .ref (ro 13), .ref (ro 14), .ref (ro 15)])), (ro 1, .inl (Y.2 0, 300, .inl val)), (ro 2, .inl (Y.2 0, 3, .inl siz)), (ro 3, .inl (Y.2 0, 8, .inl trg)), (ro 4, .inl (Y.2 0, 8, .inl spg)), (ro 5, .inl (Y.2 0, 12, .inl pro)), (ro 6, .inl (Y.2 0, 12, .inl beg)), (ro 7, .inl (Y.2 1, 12, .inl isg)), (ro 8, .inl (Y.2 0, 64, .inl key)), (ro 9, .inl (Y.2 0, 64, .inl lev)), (ro 10, .inl (Y.2 0, 4, .inl kvi)), (ro 11, .inl (Y.2 0, 4, .inl ksz)), (ro 12, .inl (Y.2 0, 4, .inl krt)), (ro 13, .inl (Y.2 1, 4, .inl ala)), (ro 14, .inl (Y.2 0, 4, .inl fol)), (ro 15, .inl (Y.2 0, 4, .inl cts))] := th_Dsame hD rfl
          rcases het with ⟨hF0, he9⟩ | ⟨hF0, he9⟩
          · subst he9
            have hgR := th_gR0 hF0
            refine lv_aload_n hx hb dX6_testGrowth_101 rfl (lv_at hl 2 rfl) ?_
            refine va_get (D := Y.1) (ci := 6) (v := .int (nI 1)) (C := RX6) (T := TX6) (N := 22) hx hb hts inX6 hown hK hP 0 rfl rfl 13 (by decide) (hts _ tw_3_168) (fun _ h9 => h9) rfl dX6_testGrowth_102 ?_
            refine th_zeq (tgt := 112) hx hb dX6_testGrowth_105 (by decide) (by omega) (fun c_13 => by exfalso; omega) (fun c_13 => ?_)
            refine lv_iconst (v := nI 0) hx hb dX6_testGrowth_108 (by decide) ?_
            refine lv_goto (tgt := 113) hx hb dX6_testGrowth_109 (by decide) ?_
            refine lv_istore (lv' := [(7, .int (nI 0)), (6, .int (nI 1)), (5, .int (nI 1)), (0, .ref (ro 0)), (1, .int (nI j1)), (2, .int (nI j2)), (3, .int (nI j3)), (4, .int (nI j4))]) hx hb dX6_testGrowth_113 hl (by decide) rfl (fun ls hl => ?_)
            refine lv_aload_n hx hb dX6_testGrowth_115 rfl (lv_at hl 3 rfl) ?_
            refine va_get (D := Y.1) (ci := 6) (v := .int (nI S.2.2.2.1)) (C := RX6) (T := TX6) (N := 22) hx hb hts inX6 hown hK hP 0 rfl rfl 7 (by decide) (hts _ tw_3_162) (fun _ h9 => h9) rfl dX6_testGrowth_116 ?_
            refine lv_aload_n hx hb dX6_testGrowth_119 rfl (lv_at hl 3 rfl) ?_
            refine va_get (D := Y.1) (ci := 6) (v := .int (nI (th_dG (0, j4, j2 - 1)))) (C := RX6) (T := TX6) (N := 22) hx hb hts inX6 hown hK hP 0 rfl rfl 10 (by decide) (hts _ tw_3_165) (fun _ h9 => h9) rfl dX6_testGrowth_120 ?_
            refine lv_iload hx hb dX6_testGrowth_123 (lv_at hl 0 rfl) ?_
            refine lv_iadd hx hb dX6_testGrowth_125 ?_
            refine th_ti (nI_add _ _) ?_
            refine th_ieq (tgt := 131) hx hb dX6_testGrowth_126 (by decide) (by omega) (by omega) (fun c_14 => ?_) (fun c_14 => ?_)
            · skip
              refine lv_aload_n hx hb dX6_testGrowth_131 rfl (lv_at hl 3 rfl) ?_
              refine va_get (D := Y.1) (ci := 6) (v := .int (nI 1)) (C := RX6) (T := TX6) (N := 22) hx hb hts inX6 hown hK hP 0 rfl rfl 13 (by decide) (hts _ tw_3_168) (fun _ h9 => h9) rfl dX6_testGrowth_132 ?_
              refine th_zeq (tgt := 148) hx hb dX6_testGrowth_135 (by decide) (by omega) (fun c_15 => by exfalso; omega) (fun c_15 => ?_)
              refine lv_aload_n hx hb dX6_testGrowth_138 rfl (lv_at hl 3 rfl) ?_
              refine lv_iload_n hx hb dX6_testGrowth_139 rfl (lv_at hl 4 rfl) ?_
              refine lv_iconst (v := nI 0) hx hb dX6_testGrowth_140 (by decide) ?_
              refine lv_iload_n hx hb dX6_testGrowth_141 rfl (lv_at hl 5 rfl) ?_
              refine th_callV hx hb hml hown hts ⟨hK, hN⟩ hl hS (hP 0 _ rfl) rfl (rest := []) (c_X6_rootOf l Y _ ro (nI 0) (nI (th_dG (0, j4, j2 - 1))) (nI ((th_wa (0, j4, j2 - 1) (th_dG (0, j4, j2 - 1))).1)) (nI ((th_wa (0, j4, j2 - 1) (th_dG (0, j4, j2 - 1))).2.1)) (nI 1) S.1 S.2.2.2.1 val trg spg (hP.sub (ws' := [(ro 0, .inr (6, [.int (nI 0), .ref (ro 1), .ref (ro 2), .int (nI S.1), .ref (ro 3), .ref (ro 4), .ref (ro 5), .int (nI S.2.2.2.1), .ref (ro 6), .ref (ro 7), .int (nI (th_dG (0, j4, j2 - 1))), .int (nI ((th_wa (0, j4, j2 - 1) (th_dG (0, j4, j2 - 1))).1)), .int (nI ((th_wa (0, j4, j2 - 1) (th_dG (0, j4, j2 - 1))).2.1)), .int (nI 1), .ref (ro 8), .ref (ro 9), .ref (ro 10), .ref (ro 11), .ref (ro 12), .ref (ro 13), .ref (ro 14), .ref (ro 15)])), (ro 1, .inl (Y.2 0, 300, .inl val)), (ro 3, .inl (Y.2 0, 8, .inl trg)), (ro 4, .inl (Y.2 0, 8, .inl spg))]) [0, 1, 3, 4] rfl) ((hD.sub (ws' := [(ro 0, .inr (6, [.int (nI 0), .ref (ro 1), .ref (ro 2), .int (nI S.1), .ref (ro 3), .ref (ro 4), .ref (ro 5), .int (nI S.2.2.2.1), .ref (ro 6), .ref (ro 7), .int (nI (th_dG (0, j4, j2 - 1))), .int (nI ((th_wa (0, j4, j2 - 1) (th_dG (0, j4, j2 - 1))).1)), .int (nI ((th_wa (0, j4, j2 - 1) (th_dG (0, j4, j2 - 1))).2.1)), .int (nI 1), .ref (ro 8), .ref (ro 9), .ref (ro 10), .ref (ro 11), .ref (ro 12), .ref (ro 13), .ref (ro 14), .ref (ro 15)])), (ro 1, .inl (Y.2 0, 300, .inl val)), (ro 3, .inl (Y.2 0, 8, .inl trg)), (ro 4, .inl (Y.2 0, 8, .inl spg))]) [0, 1, 3, 4] (by decide) rfl).weaken (fun _ _ _ _ => trivial)) j1 0 j2 (by omega) (by omega)) ok_X6_rootOf tw_4_33 dX6_testGrowth_142 rfl rfl (Nat.le_of_ble_eq_true rfl) ⟨Nat.le_of_ble_eq_true rfl, Nat.le_of_ble_eq_true rfl⟩ ⟨Nat.le_of_ble_eq_true rfl, Nat.le_of_ble_eq_true rfl⟩ (th_subL [0, 1, 3, 4] rfl) (th_ki (fun rz9 H locs hp hsm hS => ?_))
              obtain ⟨hrz, z_16t, z_16s, hPc⟩ := hp
              have hP : va_P Y.1 vwCl [(ro 0, .inr (6, [.int (nI 0), .ref (ro 1), .ref (ro 2), .int (nI S.1), .ref (ro 3), .ref (ro 4), .ref (ro 5), .int (nI S.2.2.2.1), .ref (ro 6), .ref (ro 7), .int (nI (th_dG (0, j4, j2 - 1))), .int (nI ((th_wa (0, j4, j2 - 1) (th_dG (0, j4, j2 - 1))).1)), .int (nI ((th_wa (0, j4, j2 - 1) (th_dG (0, j4, j2 - 1))).2.1)), .int (nI 1), .ref (ro 8), .ref (ro 9), .ref (ro 10), .ref (ro 11), .ref (ro 12), .ref (ro 13), .ref (ro 14), .ref (ro 15)])), (ro 1, .inl (Y.2 0, 300, .inl val)), (ro 2, .inl (Y.2 0, 3, .inl siz)), (ro 3, .inl (Y.2 0, 8, .inl z_16t)), (ro 4, .inl (Y.2 0, 8, .inl z_16s)), (ro 5, .inl (Y.2 0, 12, .inl pro)), (ro 6, .inl (Y.2 0, 12, .inl beg)), (ro 7, .inl (Y.2 1, 12, .inl isg)), (ro 8, .inl (Y.2 0, 64, .inl key)), (ro 9, .inl (Y.2 0, 64, .inl lev)), (ro 10, .inl (Y.2 0, 4, .inl kvi)), (ro 11, .inl (Y.2 0, 4, .inl ksz)), (ro 12, .inl (Y.2 0, 4, .inl krt)), (ro 13, .inl (Y.2 1, 4, .inl ala)), (ro 14, .inl (Y.2 0, 4, .inl fol)), (ro 15, .inl (Y.2 0, 4, .inl cts))] _ := (th_join (wr := [(ro 2, .inl (Y.2 0, 3, .inl siz)), (ro 5, .inl (Y.2 0, 12, .inl pro)), (ro 6, .inl (Y.2 0, 12, .inl beg)), (ro 7, .inl (Y.2 1, 12, .inl isg)), (ro 8, .inl (Y.2 0, 64, .inl key)), (ro 9, .inl (Y.2 0, 64, .inl lev)), (ro 10, .inl (Y.2 0, 4, .inl kvi)), (ro 11, .inl (Y.2 0, 4, .inl ksz)), (ro 12, .inl (Y.2 0, 4, .inl krt)), (ro 13, .inl (Y.2 1, 4, .inl ala)), (ro 14, .inl (Y.2 0, 4, .inl fol)), (ro 15, .inl (Y.2 0, 4, .inl cts))]) hP hD [2, 5, 6, 7, 8, 9, 10, 11, 12, 13, 14, 15] [0, 1, 3, 4] rfl rfl (by decide) hsm hPc).sub [12, 13, 0, 14, 15, 1, 2, 3, 4, 5, 6, 7, 8, 9, 10, 11] rfl
              have hD : va_D _ [(ro 0, .inr (6, [.int (nI 0), .ref (ro 1), .ref (ro 2), .int (nI S.1), .ref (ro 3), .ref (ro 4), .ref (ro 5), .int (nI S.2.2.2.1), .ref (ro 6), .ref (ro 7), .int (nI (th_dG (0, j4, j2 - 1))), .int (nI ((th_wa (0, j4, j2 - 1) (th_dG (0, j4, j2 - 1))).1)), .int (nI ((th_wa (0, j4, j2 - 1) (th_dG (0, j4, j2 - 1))).2.1)), .int (nI 1), .ref (ro 8), .ref (ro 9), .ref (ro 10), .ref (ro 11), .ref (ro 12), .ref (ro 13), .ref (ro 14), .ref (ro 15)])), (ro 1, .inl (Y.2 0, 300, .inl val)), (ro 2, .inl (Y.2 0, 3, .inl siz)), (ro 3, .inl (Y.2 0, 8, .inl z_16t)), (ro 4, .inl (Y.2 0, 8, .inl z_16s)), (ro 5, .inl (Y.2 0, 12, .inl pro)), (ro 6, .inl (Y.2 0, 12, .inl beg)), (ro 7, .inl (Y.2 1, 12, .inl isg)), (ro 8, .inl (Y.2 0, 64, .inl key)), (ro 9, .inl (Y.2 0, 64, .inl lev)), (ro 10, .inl (Y.2 0, 4, .inl kvi)), (ro 11, .inl (Y.2 0, 4, .inl ksz)), (ro 12, .inl (Y.2 0, 4, .inl krt)), (ro 13, .inl (Y.2 1, 4, .inl ala)), (ro 14, .inl (Y.2 0, 4, .inl fol)), (ro 15, .inl (Y.2 0, 4, .inl cts))] := th_Dsame hD rfl
              subst hrz
              refine th_ti (th_rt_c _ _ _ (fun k9 hk9 => (hf1 _ (by omega)).1)) ?_
              refine lv_goto (tgt := 154) hx hb dX6_testGrowth_145 (by decide) ?_
              refine lv_istore (lv' := [(8, .int (th_rt (S.2.2.1 j1) 0 j2)), (7, .int (nI 0)), (6, .int (nI 1)), (5, .int (nI 1)), (0, .ref (ro 0)), (1, .int (nI j1)), (2, .int (nI j2)), (3, .int (nI j3)), (4, .int (nI j4))]) hx hb dX6_testGrowth_154 hl (by decide) rfl (fun ls hl => ?_)
              refine lv_iload hx hb dX6_testGrowth_156 (lv_at hl 0 rfl) ?_
              refine lv_istore (lv' := [(9, .int (th_rt (S.2.2.1 j1) 0 j2)), (8, .int (th_rt (S.2.2.1 j1) 0 j2)), (7, .int (nI 0)), (6, .int (nI 1)), (5, .int (nI 1)), (0, .ref (ro 0)), (1, .int (nI j1)), (2, .int (nI j2)), (3, .int (nI j3)), (4, .int (nI j4))]) hx hb dX6_testGrowth_158 hl (by decide) rfl (fun ls hl => ?_)
              refine lv_iconst (v := nI 0) hx hb dX6_testGrowth_160 (by decide) ?_
              refine lv_istore (lv' := [(10, .int (nI 0)), (9, .int (th_rt (S.2.2.1 j1) 0 j2)), (8, .int (th_rt (S.2.2.1 j1) 0 j2)), (7, .int (nI 0)), (6, .int (nI 1)), (5, .int (nI 1)), (0, .ref (ro 0)), (1, .int (nI j1)), (2, .int (nI j2)), (3, .int (nI j3)), (4, .int (nI j4))]) hx hb dX6_testGrowth_161 hl (by decide) rfl (fun ls hl => ?_)
              have lp_17 : ∀ (n_18 : Nat) (k9 : Nat) (y9 : Int32) (x9 : Int32) (locs : List Loc) (ls : Array Slot), th_dG (0, j4, j2 - 1) - k9 < n_18 → (k9 ≤ th_dG (0, j4, j2 - 1)) → (y9 = th_fo (th_gR (0, j4, j2 - 1)) (th_gF (0, j4, j2 - 1)) pro 0 (th_rt (S.2.2.1 j1) 0 j2) k9) → (x9 = th_fd (th_gR (0, j4, j2 - 1)) (th_gF (0, j4, j2 - 1)) pro 0 (th_rt (S.2.2.1 j1) 0 j2) k9) → va_S (fun z => z ∈ [ro 0, ro 1, ro 2, ro 3, ro 4, ro 5, ro 6, ro 7, ro 8, ro 9, ro 10, ro 11, ro 12, ro 13, ro 14, ro 15]) H0 H locs → lv_has ls 13 [(0, .ref (ro 0)), (1, .int (nI j1)), (2, .int (nI j2)), (3, .int (nI j3)), (4, .int (nI j4)), (5, .int (nI 1)), (6, .int (nI 1)), (7, .int (nI 0)), (8, .int y9), (9, .int x9), (10, .int (nI k9))] → W p l e (th_rm 6 0 0) s m args below meth c H locs 0 0 Q (F0 m 163 ls []) := by
                intro n_18; induction n_18 with
                | zero => intros; exfalso; omega
                | succ n_18 ih_19 =>
                  intro k9 y9 x9 locs ls hmz hk9 hy9 hx9 hS hl
                  refine lv_iload hx hb dX6_testGrowth_163 (lv_at hl 10 rfl) ?_
                  refine lv_aload_n hx hb dX6_testGrowth_165 rfl (lv_at hl 0 rfl) ?_
                  refine va_get (D := Y.1) (ci := 6) (v := .int (nI (th_dG (0, j4, j2 - 1)))) (C := RX6) (T := TX6) (N := 22) hx hb hts inX6 hown hK hP 0 rfl rfl 10 (by decide) (hts _ tw_3_165) (fun _ h9 => h9) rfl dX6_testGrowth_166 ?_
                  refine th_ige (tgt := 249) hx hb dX6_testGrowth_169 (by decide) (by omega) (by omega) (fun c_20 => ?_) (fun c_20 => ?_)
                  · skip
                    refine lv_iload hx hb dX6_testGrowth_249 (lv_at hl 8 rfl) ?_
                    refine lv_aload_n hx hb dX6_testGrowth_251 rfl (lv_at hl 0 rfl) ?_
                    refine lv_iload_n hx hb dX6_testGrowth_252 rfl (lv_at hl 1 rfl) ?_
                    refine lv_iconst (v := nI 0) hx hb dX6_testGrowth_253 (by decide) ?_
                    refine lv_iload_n hx hb dX6_testGrowth_254 rfl (lv_at hl 2 rfl) ?_
                    refine th_callV hx hb hml hown hts ⟨hK, hN⟩ hl hS (hP 0 _ rfl) rfl (rest := [.int y9]) (c_X6_rootOf l Y _ ro (nI 0) (nI (th_dG (0, j4, j2 - 1))) (nI ((th_wa (0, j4, j2 - 1) (th_dG (0, j4, j2 - 1))).1)) (nI ((th_wa (0, j4, j2 - 1) (th_dG (0, j4, j2 - 1))).2.1)) (nI 1) S.1 S.2.2.2.1 val z_16t z_16s (hP.sub (ws' := [(ro 0, .inr (6, [.int (nI 0), .ref (ro 1), .ref (ro 2), .int (nI S.1), .ref (ro 3), .ref (ro 4), .ref (ro 5), .int (nI S.2.2.2.1), .ref (ro 6), .ref (ro 7), .int (nI (th_dG (0, j4, j2 - 1))), .int (nI ((th_wa (0, j4, j2 - 1) (th_dG (0, j4, j2 - 1))).1)), .int (nI ((th_wa (0, j4, j2 - 1) (th_dG (0, j4, j2 - 1))).2.1)), .int (nI 1), .ref (ro 8), .ref (ro 9), .ref (ro 10), .ref (ro 11), .ref (ro 12), .ref (ro 13), .ref (ro 14), .ref (ro 15)])), (ro 1, .inl (Y.2 0, 300, .inl val)), (ro 3, .inl (Y.2 0, 8, .inl z_16t)), (ro 4, .inl (Y.2 0, 8, .inl z_16s))]) [0, 1, 3, 4] rfl) ((hD.sub (ws' := [(ro 0, .inr (6, [.int (nI 0), .ref (ro 1), .ref (ro 2), .int (nI S.1), .ref (ro 3), .ref (ro 4), .ref (ro 5), .int (nI S.2.2.2.1), .ref (ro 6), .ref (ro 7), .int (nI (th_dG (0, j4, j2 - 1))), .int (nI ((th_wa (0, j4, j2 - 1) (th_dG (0, j4, j2 - 1))).1)), .int (nI ((th_wa (0, j4, j2 - 1) (th_dG (0, j4, j2 - 1))).2.1)), .int (nI 1), .ref (ro 8), .ref (ro 9), .ref (ro 10), .ref (ro 11), .ref (ro 12), .ref (ro 13), .ref (ro 14), .ref (ro 15)])), (ro 1, .inl (Y.2 0, 300, .inl val)), (ro 3, .inl (Y.2 0, 8, .inl z_16t)), (ro 4, .inl (Y.2 0, 8, .inl z_16s))]) [0, 1, 3, 4] (by decide) rfl).weaken (fun _ _ _ _ => trivial)) j1 0 j2 (by omega) (by omega)) ok_X6_rootOf tw_4_33 dX6_testGrowth_255 rfl rfl (Nat.le_of_ble_eq_true rfl) ⟨Nat.le_of_ble_eq_true rfl, Nat.le_of_ble_eq_true rfl⟩ ⟨Nat.le_of_ble_eq_true rfl, Nat.le_of_ble_eq_true rfl⟩ (th_subL [0, 1, 3, 4] rfl) (th_ki (fun rz9 H locs hp hsm hS => ?_))
                    obtain ⟨hrz, z_21t, z_21s, hPc⟩ := hp
                    have hP : va_P Y.1 vwCl [(ro 0, .inr (6, [.int (nI 0), .ref (ro 1), .ref (ro 2), .int (nI S.1), .ref (ro 3), .ref (ro 4), .ref (ro 5), .int (nI S.2.2.2.1), .ref (ro 6), .ref (ro 7), .int (nI (th_dG (0, j4, j2 - 1))), .int (nI ((th_wa (0, j4, j2 - 1) (th_dG (0, j4, j2 - 1))).1)), .int (nI ((th_wa (0, j4, j2 - 1) (th_dG (0, j4, j2 - 1))).2.1)), .int (nI 1), .ref (ro 8), .ref (ro 9), .ref (ro 10), .ref (ro 11), .ref (ro 12), .ref (ro 13), .ref (ro 14), .ref (ro 15)])), (ro 1, .inl (Y.2 0, 300, .inl val)), (ro 2, .inl (Y.2 0, 3, .inl siz)), (ro 3, .inl (Y.2 0, 8, .inl z_21t)), (ro 4, .inl (Y.2 0, 8, .inl z_21s)), (ro 5, .inl (Y.2 0, 12, .inl pro)), (ro 6, .inl (Y.2 0, 12, .inl beg)), (ro 7, .inl (Y.2 1, 12, .inl isg)), (ro 8, .inl (Y.2 0, 64, .inl key)), (ro 9, .inl (Y.2 0, 64, .inl lev)), (ro 10, .inl (Y.2 0, 4, .inl kvi)), (ro 11, .inl (Y.2 0, 4, .inl ksz)), (ro 12, .inl (Y.2 0, 4, .inl krt)), (ro 13, .inl (Y.2 1, 4, .inl ala)), (ro 14, .inl (Y.2 0, 4, .inl fol)), (ro 15, .inl (Y.2 0, 4, .inl cts))] _ := (th_join (wr := [(ro 2, .inl (Y.2 0, 3, .inl siz)), (ro 5, .inl (Y.2 0, 12, .inl pro)), (ro 6, .inl (Y.2 0, 12, .inl beg)), (ro 7, .inl (Y.2 1, 12, .inl isg)), (ro 8, .inl (Y.2 0, 64, .inl key)), (ro 9, .inl (Y.2 0, 64, .inl lev)), (ro 10, .inl (Y.2 0, 4, .inl kvi)), (ro 11, .inl (Y.2 0, 4, .inl ksz)), (ro 12, .inl (Y.2 0, 4, .inl krt)), (ro 13, .inl (Y.2 1, 4, .inl ala)), (ro 14, .inl (Y.2 0, 4, .inl fol)), (ro 15, .inl (Y.2 0, 4, .inl cts))]) hP hD [2, 5, 6, 7, 8, 9, 10, 11, 12, 13, 14, 15] [0, 1, 3, 4] rfl rfl (by decide) hsm hPc).sub [12, 13, 0, 14, 15, 1, 2, 3, 4, 5, 6, 7, 8, 9, 10, 11] rfl
                    have hD : va_D _ [(ro 0, .inr (6, [.int (nI 0), .ref (ro 1), .ref (ro 2), .int (nI S.1), .ref (ro 3), .ref (ro 4), .ref (ro 5), .int (nI S.2.2.2.1), .ref (ro 6), .ref (ro 7), .int (nI (th_dG (0, j4, j2 - 1))), .int (nI ((th_wa (0, j4, j2 - 1) (th_dG (0, j4, j2 - 1))).1)), .int (nI ((th_wa (0, j4, j2 - 1) (th_dG (0, j4, j2 - 1))).2.1)), .int (nI 1), .ref (ro 8), .ref (ro 9), .ref (ro 10), .ref (ro 11), .ref (ro 12), .ref (ro 13), .ref (ro 14), .ref (ro 15)])), (ro 1, .inl (Y.2 0, 300, .inl val)), (ro 2, .inl (Y.2 0, 3, .inl siz)), (ro 3, .inl (Y.2 0, 8, .inl z_21t)), (ro 4, .inl (Y.2 0, 8, .inl z_21s)), (ro 5, .inl (Y.2 0, 12, .inl pro)), (ro 6, .inl (Y.2 0, 12, .inl beg)), (ro 7, .inl (Y.2 1, 12, .inl isg)), (ro 8, .inl (Y.2 0, 64, .inl key)), (ro 9, .inl (Y.2 0, 64, .inl lev)), (ro 10, .inl (Y.2 0, 4, .inl kvi)), (ro 11, .inl (Y.2 0, 4, .inl ksz)), (ro 12, .inl (Y.2 0, 4, .inl krt)), (ro 13, .inl (Y.2 1, 4, .inl ala)), (ro 14, .inl (Y.2 0, 4, .inl fol)), (ro 15, .inl (Y.2 0, 4, .inl cts))] := th_Dsame hD rfl
                    subst hrz
                    refine th_ti (th_rt_c _ _ _ (fun k9 hk9 => (hf1 _ (by omega)).1)) ?_
                    refine lv_icmp_ne (tgt := 278) hx hb dX6_testGrowth_258 (by decide) (fun c_22 => ?_) (fun c_22 => ?_)
                    · skip
                      refine lv_iconst (v := nI 0) hx hb dX6_testGrowth_278 (by decide) ?_
                      refine th_zret hx hb hr hlk hQ hS dX6_testGrowth_279 (Nat.le_of_ble_eq_true rfl) (Nat.le_of_ble_eq_true rfl) (by first | exact Or.inl rfl | exact Or.inr rfl | assumption | exact th_b01 _) ?_
                      have ek9 : k9 = th_gR (0, j4, j2 - 1) := by omega
                      rw [ek9] at hx9 hy9
                      show th_ro Y ro (_) _ _
                      unfold sp_testGrowth
                      simp only [th_qL, th_qG, zj1, zj3, zj4, zj2]
                      rw [th_ifT ⟨q1, q3⟩, th_ifT ⟨q4, q2, q6⟩]
                      exact th_roT ((th_bF (fun z9 => c_22 (hy9.trans (z9.2.1 hF0).1))).symm.trans (th_bE (th_aGE (fun j9 hj9 => hv.2.2.2.1 j9 hj9) (th_gR1 _)))) (th_rgI hP (hv))
                      
                    refine lv_iload hx hb dX6_testGrowth_261 (lv_at hl 9 rfl) ?_
                    refine lv_aload_n hx hb dX6_testGrowth_263 rfl (lv_at hl 0 rfl) ?_
                    refine lv_iload_n hx hb dX6_testGrowth_264 rfl (lv_at hl 3 rfl) ?_
                    refine lv_iconst (v := nI 0) hx hb dX6_testGrowth_265 (by decide) ?_
                    refine lv_iload hx hb dX6_testGrowth_266 (lv_at hl 4 rfl) ?_
                    refine th_callV hx hb hml hown hts ⟨hK, hN⟩ hl hS (hP 0 _ rfl) rfl (rest := [.int x9]) (c_X6_rootOf l Y _ ro (nI 0) (nI (th_dG (0, j4, j2 - 1))) (nI ((th_wa (0, j4, j2 - 1) (th_dG (0, j4, j2 - 1))).1)) (nI ((th_wa (0, j4, j2 - 1) (th_dG (0, j4, j2 - 1))).2.1)) (nI 1) S.1 S.2.2.2.1 val z_21t z_21s (hP.sub (ws' := [(ro 0, .inr (6, [.int (nI 0), .ref (ro 1), .ref (ro 2), .int (nI S.1), .ref (ro 3), .ref (ro 4), .ref (ro 5), .int (nI S.2.2.2.1), .ref (ro 6), .ref (ro 7), .int (nI (th_dG (0, j4, j2 - 1))), .int (nI ((th_wa (0, j4, j2 - 1) (th_dG (0, j4, j2 - 1))).1)), .int (nI ((th_wa (0, j4, j2 - 1) (th_dG (0, j4, j2 - 1))).2.1)), .int (nI 1), .ref (ro 8), .ref (ro 9), .ref (ro 10), .ref (ro 11), .ref (ro 12), .ref (ro 13), .ref (ro 14), .ref (ro 15)])), (ro 1, .inl (Y.2 0, 300, .inl val)), (ro 3, .inl (Y.2 0, 8, .inl z_21t)), (ro 4, .inl (Y.2 0, 8, .inl z_21s))]) [0, 1, 3, 4] rfl) ((hD.sub (ws' := [(ro 0, .inr (6, [.int (nI 0), .ref (ro 1), .ref (ro 2), .int (nI S.1), .ref (ro 3), .ref (ro 4), .ref (ro 5), .int (nI S.2.2.2.1), .ref (ro 6), .ref (ro 7), .int (nI (th_dG (0, j4, j2 - 1))), .int (nI ((th_wa (0, j4, j2 - 1) (th_dG (0, j4, j2 - 1))).1)), .int (nI ((th_wa (0, j4, j2 - 1) (th_dG (0, j4, j2 - 1))).2.1)), .int (nI 1), .ref (ro 8), .ref (ro 9), .ref (ro 10), .ref (ro 11), .ref (ro 12), .ref (ro 13), .ref (ro 14), .ref (ro 15)])), (ro 1, .inl (Y.2 0, 300, .inl val)), (ro 3, .inl (Y.2 0, 8, .inl z_21t)), (ro 4, .inl (Y.2 0, 8, .inl z_21s))]) [0, 1, 3, 4] (by decide) rfl).weaken (fun _ _ _ _ => trivial)) j3 0 j4 (by omega) (by omega)) ok_X6_rootOf tw_4_33 dX6_testGrowth_268 rfl rfl (Nat.le_of_ble_eq_true rfl) ⟨Nat.le_of_ble_eq_true rfl, Nat.le_of_ble_eq_true rfl⟩ ⟨Nat.le_of_ble_eq_true rfl, Nat.le_of_ble_eq_true rfl⟩ (th_subL [0, 1, 3, 4] rfl) (th_ki (fun rz9 H locs hp hsm hS => ?_))
                    obtain ⟨hrz, z_23t, z_23s, hPc⟩ := hp
                    have hP : va_P Y.1 vwCl [(ro 0, .inr (6, [.int (nI 0), .ref (ro 1), .ref (ro 2), .int (nI S.1), .ref (ro 3), .ref (ro 4), .ref (ro 5), .int (nI S.2.2.2.1), .ref (ro 6), .ref (ro 7), .int (nI (th_dG (0, j4, j2 - 1))), .int (nI ((th_wa (0, j4, j2 - 1) (th_dG (0, j4, j2 - 1))).1)), .int (nI ((th_wa (0, j4, j2 - 1) (th_dG (0, j4, j2 - 1))).2.1)), .int (nI 1), .ref (ro 8), .ref (ro 9), .ref (ro 10), .ref (ro 11), .ref (ro 12), .ref (ro 13), .ref (ro 14), .ref (ro 15)])), (ro 1, .inl (Y.2 0, 300, .inl val)), (ro 2, .inl (Y.2 0, 3, .inl siz)), (ro 3, .inl (Y.2 0, 8, .inl z_23t)), (ro 4, .inl (Y.2 0, 8, .inl z_23s)), (ro 5, .inl (Y.2 0, 12, .inl pro)), (ro 6, .inl (Y.2 0, 12, .inl beg)), (ro 7, .inl (Y.2 1, 12, .inl isg)), (ro 8, .inl (Y.2 0, 64, .inl key)), (ro 9, .inl (Y.2 0, 64, .inl lev)), (ro 10, .inl (Y.2 0, 4, .inl kvi)), (ro 11, .inl (Y.2 0, 4, .inl ksz)), (ro 12, .inl (Y.2 0, 4, .inl krt)), (ro 13, .inl (Y.2 1, 4, .inl ala)), (ro 14, .inl (Y.2 0, 4, .inl fol)), (ro 15, .inl (Y.2 0, 4, .inl cts))] _ := (th_join (wr := [(ro 2, .inl (Y.2 0, 3, .inl siz)), (ro 5, .inl (Y.2 0, 12, .inl pro)), (ro 6, .inl (Y.2 0, 12, .inl beg)), (ro 7, .inl (Y.2 1, 12, .inl isg)), (ro 8, .inl (Y.2 0, 64, .inl key)), (ro 9, .inl (Y.2 0, 64, .inl lev)), (ro 10, .inl (Y.2 0, 4, .inl kvi)), (ro 11, .inl (Y.2 0, 4, .inl ksz)), (ro 12, .inl (Y.2 0, 4, .inl krt)), (ro 13, .inl (Y.2 1, 4, .inl ala)), (ro 14, .inl (Y.2 0, 4, .inl fol)), (ro 15, .inl (Y.2 0, 4, .inl cts))]) hP hD [2, 5, 6, 7, 8, 9, 10, 11, 12, 13, 14, 15] [0, 1, 3, 4] rfl rfl (by decide) hsm hPc).sub [12, 13, 0, 14, 15, 1, 2, 3, 4, 5, 6, 7, 8, 9, 10, 11] rfl
                    have hD : va_D _ [(ro 0, .inr (6, [.int (nI 0), .ref (ro 1), .ref (ro 2), .int (nI S.1), .ref (ro 3), .ref (ro 4), .ref (ro 5), .int (nI S.2.2.2.1), .ref (ro 6), .ref (ro 7), .int (nI (th_dG (0, j4, j2 - 1))), .int (nI ((th_wa (0, j4, j2 - 1) (th_dG (0, j4, j2 - 1))).1)), .int (nI ((th_wa (0, j4, j2 - 1) (th_dG (0, j4, j2 - 1))).2.1)), .int (nI 1), .ref (ro 8), .ref (ro 9), .ref (ro 10), .ref (ro 11), .ref (ro 12), .ref (ro 13), .ref (ro 14), .ref (ro 15)])), (ro 1, .inl (Y.2 0, 300, .inl val)), (ro 2, .inl (Y.2 0, 3, .inl siz)), (ro 3, .inl (Y.2 0, 8, .inl z_23t)), (ro 4, .inl (Y.2 0, 8, .inl z_23s)), (ro 5, .inl (Y.2 0, 12, .inl pro)), (ro 6, .inl (Y.2 0, 12, .inl beg)), (ro 7, .inl (Y.2 1, 12, .inl isg)), (ro 8, .inl (Y.2 0, 64, .inl key)), (ro 9, .inl (Y.2 0, 64, .inl lev)), (ro 10, .inl (Y.2 0, 4, .inl kvi)), (ro 11, .inl (Y.2 0, 4, .inl ksz)), (ro 12, .inl (Y.2 0, 4, .inl krt)), (ro 13, .inl (Y.2 1, 4, .inl ala)), (ro 14, .inl (Y.2 0, 4, .inl fol)), (ro 15, .inl (Y.2 0, 4, .inl cts))] := th_Dsame hD rfl
                    subst hrz
                    refine th_ti (th_rt_c _ _ _ (fun k9 hk9 => (hf3 _ (by omega)).1)) ?_
                    refine lv_icmp_ne (tgt := 278) hx hb dX6_testGrowth_271 (by decide) (fun c_24 => ?_) (fun c_24 => ?_)
                    · skip
                      refine lv_iconst (v := nI 0) hx hb dX6_testGrowth_278 (by decide) ?_
                      refine th_zret hx hb hr hlk hQ hS dX6_testGrowth_279 (Nat.le_of_ble_eq_true rfl) (Nat.le_of_ble_eq_true rfl) (by first | exact Or.inl rfl | exact Or.inr rfl | assumption | exact th_b01 _) ?_
                      have ek9 : k9 = th_gR (0, j4, j2 - 1) := by omega
                      rw [ek9] at hx9 hy9
                      show th_ro Y ro (_) _ _
                      unfold sp_testGrowth
                      simp only [th_qL, th_qG, zj1, zj3, zj4, zj2]
                      rw [th_ifT ⟨q1, q3⟩, th_ifT ⟨q4, q2, q6⟩]
                      exact th_roT ((th_bF (fun z9 => c_24 (hx9.trans (z9.2.1 hF0).2))).symm.trans (th_bE (th_aGE (fun j9 hj9 => hv.2.2.2.1 j9 hj9) (th_gR1 _)))) (th_rgI hP (hv))
                      
                    refine lv_iconst (v := nI 1) hx hb dX6_testGrowth_274 (by decide) ?_
                    refine lv_goto (tgt := 279) hx hb dX6_testGrowth_275 (by decide) ?_
                    refine th_zret hx hb hr hlk hQ hS dX6_testGrowth_279 (Nat.le_of_ble_eq_true rfl) (Nat.le_of_ble_eq_true rfl) (by first | exact Or.inl rfl | exact Or.inr rfl | assumption | exact th_b01 _) ?_
                    have ek9 : k9 = th_gR (0, j4, j2 - 1) := by omega
                    rw [ek9] at hx9 hy9
                    show th_ro Y ro (_) _ _
                    unfold sp_testGrowth
                    simp only [th_qL, th_qG, zj1, zj3, zj4, zj2]
                    rw [th_ifT ⟨q1, q3⟩, th_ifT ⟨q4, q2, q6⟩]
                    exact th_roT ((th_bT ⟨by omega, fun _ => ⟨hy9.symm.trans c_22, hx9.symm.trans c_24⟩, fun z9 => absurd hF0 z9⟩).symm.trans (th_bE (th_aGE (fun j9 hj9 => hv.2.2.2.1 j9 hj9) (th_gR1 _)))) (th_rgI hP (hv))
                    
                  refine lv_aload_n hx hb dX6_testGrowth_172 rfl (lv_at hl 0 rfl) ?_
                  refine va_get (D := Y.1) (ci := 6) (v := .ref (ro 5)) (C := RX6) (T := TX6) (N := 22) hx hb hts inX6 hown hK hP 0 rfl rfl 6 (by decide) (hts _ tw_3_161) (fun _ h9 => h9) rfl dX6_testGrowth_173 ?_
                  refine lv_iload hx hb dX6_testGrowth_176 (lv_at hl 10 rfl) ?_
                  refine lv_iload hx hb dX6_testGrowth_178 (lv_at hl 7 rfl) ?_
                  refine lv_iadd hx hb dX6_testGrowth_180 ?_
                  refine th_ti (nI_add _ _) ?_
                  refine th_iald hx hb hK hP 5 rfl (j := (k9 + 0)) (by omega) (by omega) dX6_testGrowth_181 ?_
                  refine th_ti (show pro (k9 + 0) = pro (0 + k9) from congrArg pro (Nat.add_comm _ _)) ?_
                  refine lv_istore (lv' := [(11, .int (pro (0 + k9))), (0, .ref (ro 0)), (1, .int (nI j1)), (2, .int (nI j2)), (3, .int (nI j3)), (4, .int (nI j4)), (5, .int (nI 1)), (6, .int (nI 1)), (7, .int (nI 0)), (8, .int y9), (9, .int x9), (10, .int (nI k9))]) hx hb dX6_testGrowth_182 hl (by decide) rfl (fun ls hl => ?_)
                  refine lv_aload_n hx hb dX6_testGrowth_184 rfl (lv_at hl 1 rfl) ?_
                  refine va_get (D := Y.1) (ci := 6) (v := .ref (ro 7)) (C := RX6) (T := TX6) (N := 22) hx hb hts inX6 hown hK hP 0 rfl rfl 9 (by decide) (hts _ tw_3_164) (fun _ h9 => h9) rfl dX6_testGrowth_185 ?_
                  refine lv_aload_n hx hb dX6_testGrowth_188 rfl (lv_at hl 1 rfl) ?_
                  refine va_get (D := Y.1) (ci := 6) (v := .int (nI (th_dG (0, j4, j2 - 1)))) (C := RX6) (T := TX6) (N := 22) hx hb hts inX6 hown hK hP 0 rfl rfl 10 (by decide) (hts _ tw_3_165) (fun _ h9 => h9) rfl dX6_testGrowth_189 ?_
                  refine lv_iconst (v := nI 1) hx hb dX6_testGrowth_192 (by decide) ?_
                  refine lv_isub hx hb dX6_testGrowth_193 ?_
                  refine th_ti (pk_sub (by omega)) ?_
                  refine lv_iload hx hb dX6_testGrowth_194 (lv_at hl 11 rfl) ?_
                  refine lv_isub hx hb dX6_testGrowth_196 ?_
                  refine th_ti (pk_sub (by omega)) ?_
                  refine th_zald hx hb hK hP 7 rfl (j := (((th_dG (0, j4, j2 - 1)) - 1) - k9)) (by omega) (by omega) dX6_testGrowth_197 ?_
                  have hri := (hRB (th_dG (0, j4, j2 - 1) - 1 - k9) (by omega)).2
                  have hst := th_fd_s hx9
                  have hso := th_fo_s hy9
                  rw [show th_gR (0, j4, j2 - 1) - 1 - (0 + k9) = th_dG (0, j4, j2 - 1) - 1 - k9 by omega] at hst hso
                  by_cases hh : (th_wa (0, j4, j2 - 1) (th_dG (0, j4, j2 - 1) - 1 - k9)).2.2 < th_sp (th_wa (0, j4, j2 - 1) (th_dG (0, j4, j2 - 1) - 1 - k9)).2.1
                  · skip
                    have hF : th_gF (0, j4, j2 - 1) (th_dG (0, j4, j2 - 1) - 1 - k9) = 0 := by
                      unfold th_gF
                      rw [if_pos (by omega)]
                      exact if_pos hh
                    refine th_ti (show isg (((th_dG (0, j4, j2 - 1)) - 1) - k9) = nI 1 from hri.trans (if_pos hh)) ?_
                    refine lv_istore (lv' := [(12, .int (nI 1)), (11, .int (pro (0 + k9))), (0, .ref (ro 0)), (1, .int (nI j1)), (2, .int (nI j2)), (3, .int (nI j3)), (4, .int (nI j4)), (5, .int (nI 1)), (6, .int (nI 1)), (7, .int (nI 0)), (8, .int y9), (9, .int x9), (10, .int (nI k9))]) hx hb dX6_testGrowth_198 hl (by decide) rfl (fun ls hl => ?_)
                    refine lv_iload hx hb dX6_testGrowth_200 (lv_at hl 0 rfl) ?_
                    refine th_zeq (tgt := 215) hx hb dX6_testGrowth_202 (by decide) (by omega) (fun c_25 => by exfalso; omega) (fun c_25 => ?_)
                    refine lv_iload hx hb dX6_testGrowth_205 (lv_at hl 11 rfl) ?_
                    refine lv_iload hx hb dX6_testGrowth_207 (lv_at hl 1 rfl) ?_
                    refine th_callS hx hb hml hown hts ⟨hK, hN⟩ hl hS (rest := []) (c_X6_mix l Y _ x9 (pro (0 + k9))) ok_X6_mix tw_4_43 dX6_testGrowth_209 rfl rfl (Nat.le_of_ble_eq_true rfl) ⟨Nat.le_of_ble_eq_true rfl, Nat.le_of_ble_eq_true rfl⟩ ⟨Nat.le_of_ble_eq_true rfl, Nat.le_of_ble_eq_true rfl⟩ (fun _ h => h.elim) (th_kpi (fun locs hS => ?_))
                    refine lv_goto (tgt := 222) hx hb dX6_testGrowth_212 (by decide) ?_
                    refine lv_istore (lv' := [(9, .int (th_mx x9 (pro (0 + k9)))), (12, .int (nI 1)), (11, .int (pro (0 + k9))), (0, .ref (ro 0)), (1, .int (nI j1)), (2, .int (nI j2)), (3, .int (nI j3)), (4, .int (nI j4)), (5, .int (nI 1)), (6, .int (nI 1)), (7, .int (nI 0)), (8, .int y9), (10, .int (nI k9))]) hx hb dX6_testGrowth_222 hl (by decide) rfl (fun ls hl => ?_)
                    refine lv_iload hx hb dX6_testGrowth_224 (lv_at hl 1 rfl) ?_
                    refine th_zeq (tgt := 234) hx hb dX6_testGrowth_226 (by decide) (by omega) (fun c_26 => by exfalso; omega) (fun c_26 => ?_)
                    refine lv_iload hx hb dX6_testGrowth_229 (lv_at hl 11 rfl) ?_
                    refine lv_goto (tgt := 241) hx hb dX6_testGrowth_231 (by decide) ?_
                    refine lv_istore (lv' := [(8, .int y9), (9, .int (th_mx x9 (pro (0 + k9)))), (12, .int (nI 1)), (11, .int (pro (0 + k9))), (0, .ref (ro 0)), (1, .int (nI j1)), (2, .int (nI j2)), (3, .int (nI j3)), (4, .int (nI j4)), (5, .int (nI 1)), (6, .int (nI 1)), (7, .int (nI 0)), (10, .int (nI k9))]) hx hb dX6_testGrowth_241 hl (by decide) rfl (fun ls hl => ?_)
                    refine lv_iinc (v := nI (k9 + 1)) (lv' := [(10, .int (nI (k9 + 1))), (8, .int y9), (9, .int (th_mx x9 (pro (0 + k9)))), (12, .int (nI 1)), (11, .int (pro (0 + k9))), (0, .ref (ro 0)), (1, .int (nI j1)), (2, .int (nI j2)), (3, .int (nI j3)), (4, .int (nI j4)), (5, .int (nI 1)), (6, .int (nI 1)), (7, .int (nI 0))]) hx hb dX6_testGrowth_243 hl (k := 12) rfl (nI_add _ 1) (by decide) rfl (fun ls hl => ?_)
                    refine lv_goto (tgt := 163) hx hb dX6_testGrowth_246 (by decide) ?_
                    exact ih_19 (k9 + 1) (y9) (th_mx x9 (pro (0 + k9))) _ _ (by omega) (by omega) (hso.1 hF) (hst.1 hF) hS (lv_sub hl [5, 6, 7, 8, 9, 10, 11, 12, 1, 2, 0] rfl)
                  · skip
                    have hF : ¬ th_gF (0, j4, j2 - 1) (th_dG (0, j4, j2 - 1) - 1 - k9) = 0 := by
                      unfold th_gF
                      rw [if_pos (by omega), show th_fi (th_wa (0, j4, j2 - 1) (th_dG (0, j4, j2 - 1) - 1 - k9)) = nI 1 from if_neg hh]
                      decide
                    refine th_ti (show isg (((th_dG (0, j4, j2 - 1)) - 1) - k9) = nI 0 from hri.trans (if_neg hh)) ?_
                    refine lv_istore (lv' := [(12, .int (nI 0)), (11, .int (pro (0 + k9))), (0, .ref (ro 0)), (1, .int (nI j1)), (2, .int (nI j2)), (3, .int (nI j3)), (4, .int (nI j4)), (5, .int (nI 1)), (6, .int (nI 1)), (7, .int (nI 0)), (8, .int y9), (9, .int x9), (10, .int (nI k9))]) hx hb dX6_testGrowth_198 hl (by decide) rfl (fun ls hl => ?_)
                    refine lv_iload hx hb dX6_testGrowth_200 (lv_at hl 0 rfl) ?_
                    refine th_zeq (tgt := 215) hx hb dX6_testGrowth_202 (by decide) (by omega) (fun c_27 => ?_) (fun c_27 => by exfalso; omega)
                    refine lv_iload hx hb dX6_testGrowth_215 (lv_at hl 1 rfl) ?_
                    refine lv_iload hx hb dX6_testGrowth_217 (lv_at hl 11 rfl) ?_
                    refine th_callS hx hb hml hown hts ⟨hK, hN⟩ hl hS (rest := []) (c_X6_mix l Y _ (pro (0 + k9)) x9) ok_X6_mix tw_4_43 dX6_testGrowth_219 rfl rfl (Nat.le_of_ble_eq_true rfl) ⟨Nat.le_of_ble_eq_true rfl, Nat.le_of_ble_eq_true rfl⟩ ⟨Nat.le_of_ble_eq_true rfl, Nat.le_of_ble_eq_true rfl⟩ (fun _ h => h.elim) (th_kpi (fun locs hS => ?_))
                    refine lv_istore (lv' := [(9, .int (th_mx (pro (0 + k9)) x9)), (12, .int (nI 0)), (11, .int (pro (0 + k9))), (0, .ref (ro 0)), (1, .int (nI j1)), (2, .int (nI j2)), (3, .int (nI j3)), (4, .int (nI j4)), (5, .int (nI 1)), (6, .int (nI 1)), (7, .int (nI 0)), (8, .int y9), (10, .int (nI k9))]) hx hb dX6_testGrowth_222 hl (by decide) rfl (fun ls hl => ?_)
                    refine lv_iload hx hb dX6_testGrowth_224 (lv_at hl 1 rfl) ?_
                    refine th_zeq (tgt := 234) hx hb dX6_testGrowth_226 (by decide) (by omega) (fun c_28 => ?_) (fun c_28 => by exfalso; omega)
                    refine lv_iload hx hb dX6_testGrowth_234 (lv_at hl 2 rfl) ?_
                    refine lv_iload hx hb dX6_testGrowth_236 (lv_at hl 11 rfl) ?_
                    refine th_callS hx hb hml hown hts ⟨hK, hN⟩ hl hS (rest := []) (c_X6_mix l Y _ (pro (0 + k9)) y9) ok_X6_mix tw_4_43 dX6_testGrowth_238 rfl rfl (Nat.le_of_ble_eq_true rfl) ⟨Nat.le_of_ble_eq_true rfl, Nat.le_of_ble_eq_true rfl⟩ ⟨Nat.le_of_ble_eq_true rfl, Nat.le_of_ble_eq_true rfl⟩ (fun _ h => h.elim) (th_kpi (fun locs hS => ?_))
                    refine lv_istore (lv' := [(8, .int (th_mx (pro (0 + k9)) y9)), (9, .int (th_mx (pro (0 + k9)) x9)), (12, .int (nI 0)), (11, .int (pro (0 + k9))), (0, .ref (ro 0)), (1, .int (nI j1)), (2, .int (nI j2)), (3, .int (nI j3)), (4, .int (nI j4)), (5, .int (nI 1)), (6, .int (nI 1)), (7, .int (nI 0)), (10, .int (nI k9))]) hx hb dX6_testGrowth_241 hl (by decide) rfl (fun ls hl => ?_)
                    refine lv_iinc (v := nI (k9 + 1)) (lv' := [(10, .int (nI (k9 + 1))), (8, .int (th_mx (pro (0 + k9)) y9)), (9, .int (th_mx (pro (0 + k9)) x9)), (12, .int (nI 0)), (11, .int (pro (0 + k9))), (0, .ref (ro 0)), (1, .int (nI j1)), (2, .int (nI j2)), (3, .int (nI j3)), (4, .int (nI j4)), (5, .int (nI 1)), (6, .int (nI 1)), (7, .int (nI 0))]) hx hb dX6_testGrowth_243 hl (k := 12) rfl (nI_add _ 1) (by decide) rfl (fun ls hl => ?_)
                    refine lv_goto (tgt := 163) hx hb dX6_testGrowth_246 (by decide) ?_
                    exact ih_19 (k9 + 1) (th_mx (pro (0 + k9)) y9) (th_mx (pro (0 + k9)) x9) _ _ (by omega) (by omega) (hso.2 hF) (hst.2 hF) hS (lv_sub hl [5, 6, 7, 8, 9, 10, 11, 12, 1, 2, 0] rfl)
              exact lp_17 ((th_dG (0, j4, j2 - 1) - (0)) + 1) (0) (th_rt (S.2.2.1 j1) 0 j2) (th_rt (S.2.2.1 j1) 0 j2) _ _ (Nat.lt_succ_self _) (by omega) (rfl) (rfl) hS (lv_sub hl [6, 7, 8, 9, 10, 5, 4, 3, 2, 1, 0] rfl)
            refine lv_iconst (v := nI 0) hx hb dX6_testGrowth_129 (by decide) ?_
            refine th_zret hx hb hr hlk hQ hS dX6_testGrowth_130 (Nat.le_of_ble_eq_true rfl) (Nat.le_of_ble_eq_true rfl) (by first | exact Or.inl rfl | exact Or.inr rfl | assumption | exact th_b01 _) ?_
            show th_ro Y ro (_) _ _
            unfold sp_testGrowth
            simp only [th_qL, th_qG, zj1, zj3, zj4, zj2]
            rw [th_ifT ⟨q1, q3⟩, th_ifT ⟨q4, q2, q6⟩]
            exact th_roT ((th_bF (fun z9 => c_14 (by have z8 := z9.1; omega))).symm.trans (th_bE (th_aGE (fun j9 hj9 => hv.2.2.2.1 j9 hj9) (th_gR1 _)))) (th_rgI hP (hv))
            
          · subst he9
            have hgR := th_gRs hF0
            refine lv_aload_n hx hb dX6_testGrowth_101 rfl (lv_at hl 2 rfl) ?_
            refine va_get (D := Y.1) (ci := 6) (v := .int (nI 0)) (C := RX6) (T := TX6) (N := 22) hx hb hts inX6 hown hK hP 0 rfl rfl 13 (by decide) (hts _ tw_3_168) (fun _ h9 => h9) rfl dX6_testGrowth_102 ?_
            refine th_zeq (tgt := 112) hx hb dX6_testGrowth_105 (by decide) (by omega) (fun c_29 => ?_) (fun c_29 => by exfalso; omega)
            refine lv_iconst (v := nI 1) hx hb dX6_testGrowth_112 (by decide) ?_
            refine lv_istore (lv' := [(7, .int (nI 1)), (6, .int (nI 1)), (5, .int (nI 1)), (0, .ref (ro 0)), (1, .int (nI j1)), (2, .int (nI j2)), (3, .int (nI j3)), (4, .int (nI j4))]) hx hb dX6_testGrowth_113 hl (by decide) rfl (fun ls hl => ?_)
            refine lv_aload_n hx hb dX6_testGrowth_115 rfl (lv_at hl 3 rfl) ?_
            refine va_get (D := Y.1) (ci := 6) (v := .int (nI S.2.2.2.1)) (C := RX6) (T := TX6) (N := 22) hx hb hts inX6 hown hK hP 0 rfl rfl 7 (by decide) (hts _ tw_3_162) (fun _ h9 => h9) rfl dX6_testGrowth_116 ?_
            refine lv_aload_n hx hb dX6_testGrowth_119 rfl (lv_at hl 3 rfl) ?_
            refine va_get (D := Y.1) (ci := 6) (v := .int (nI (th_dG (0, j4, j2 - 1)))) (C := RX6) (T := TX6) (N := 22) hx hb hts inX6 hown hK hP 0 rfl rfl 10 (by decide) (hts _ tw_3_165) (fun _ h9 => h9) rfl dX6_testGrowth_120 ?_
            refine lv_iload hx hb dX6_testGrowth_123 (lv_at hl 0 rfl) ?_
            refine lv_iadd hx hb dX6_testGrowth_125 ?_
            refine th_ti (nI_add _ _) ?_
            refine th_ieq (tgt := 131) hx hb dX6_testGrowth_126 (by decide) (by omega) (by omega) (fun c_30 => ?_) (fun c_30 => ?_)
            · skip
              refine lv_aload_n hx hb dX6_testGrowth_131 rfl (lv_at hl 3 rfl) ?_
              refine va_get (D := Y.1) (ci := 6) (v := .int (nI 0)) (C := RX6) (T := TX6) (N := 22) hx hb hts inX6 hown hK hP 0 rfl rfl 13 (by decide) (hts _ tw_3_168) (fun _ h9 => h9) rfl dX6_testGrowth_132 ?_
              refine th_zeq (tgt := 148) hx hb dX6_testGrowth_135 (by decide) (by omega) (fun c_31 => ?_) (fun c_31 => by exfalso; omega)
              refine lv_aload_n hx hb dX6_testGrowth_148 rfl (lv_at hl 3 rfl) ?_
              refine va_get (D := Y.1) (ci := 6) (v := .ref (ro 5)) (C := RX6) (T := TX6) (N := 22) hx hb hts inX6 hown hK hP 0 rfl rfl 6 (by decide) (hts _ tw_3_161) (fun _ h9 => h9) rfl dX6_testGrowth_149 ?_
              refine lv_iconst (v := nI 0) hx hb dX6_testGrowth_152 (by decide) ?_
              refine th_iald hx hb hK hP 5 rfl (j := 0) (by omega) (by omega) dX6_testGrowth_153 ?_
              refine lv_istore (lv' := [(8, .int (pro 0)), (7, .int (nI 1)), (6, .int (nI 1)), (5, .int (nI 1)), (0, .ref (ro 0)), (1, .int (nI j1)), (2, .int (nI j2)), (3, .int (nI j3)), (4, .int (nI j4))]) hx hb dX6_testGrowth_154 hl (by decide) rfl (fun ls hl => ?_)
              refine lv_iload hx hb dX6_testGrowth_156 (lv_at hl 0 rfl) ?_
              refine lv_istore (lv' := [(9, .int (pro 0)), (8, .int (pro 0)), (7, .int (nI 1)), (6, .int (nI 1)), (5, .int (nI 1)), (0, .ref (ro 0)), (1, .int (nI j1)), (2, .int (nI j2)), (3, .int (nI j3)), (4, .int (nI j4))]) hx hb dX6_testGrowth_158 hl (by decide) rfl (fun ls hl => ?_)
              refine lv_iconst (v := nI 0) hx hb dX6_testGrowth_160 (by decide) ?_
              refine lv_istore (lv' := [(10, .int (nI 0)), (9, .int (pro 0)), (8, .int (pro 0)), (7, .int (nI 1)), (6, .int (nI 1)), (5, .int (nI 1)), (0, .ref (ro 0)), (1, .int (nI j1)), (2, .int (nI j2)), (3, .int (nI j3)), (4, .int (nI j4))]) hx hb dX6_testGrowth_161 hl (by decide) rfl (fun ls hl => ?_)
              have lp_32 : ∀ (n_33 : Nat) (k9 : Nat) (y9 : Int32) (x9 : Int32) (locs : List Loc) (ls : Array Slot), th_dG (0, j4, j2 - 1) - k9 < n_33 → (k9 ≤ th_dG (0, j4, j2 - 1)) → (y9 = th_fo (th_gR (0, j4, j2 - 1)) (th_gF (0, j4, j2 - 1)) pro 1 (pro 0) k9) → (x9 = th_fd (th_gR (0, j4, j2 - 1)) (th_gF (0, j4, j2 - 1)) pro 1 (pro 0) k9) → va_S (fun z => z ∈ [ro 0, ro 1, ro 2, ro 3, ro 4, ro 5, ro 6, ro 7, ro 8, ro 9, ro 10, ro 11, ro 12, ro 13, ro 14, ro 15]) H0 H locs → lv_has ls 13 [(0, .ref (ro 0)), (1, .int (nI j1)), (2, .int (nI j2)), (3, .int (nI j3)), (4, .int (nI j4)), (5, .int (nI 1)), (6, .int (nI 1)), (7, .int (nI 1)), (8, .int y9), (9, .int x9), (10, .int (nI k9))] → W p l e (th_rm 6 0 0) s m args below meth c H locs 0 0 Q (F0 m 163 ls []) := by
                intro n_33; induction n_33 with
                | zero => intros; exfalso; omega
                | succ n_33 ih_34 =>
                  intro k9 y9 x9 locs ls hmz hk9 hy9 hx9 hS hl
                  refine lv_iload hx hb dX6_testGrowth_163 (lv_at hl 10 rfl) ?_
                  refine lv_aload_n hx hb dX6_testGrowth_165 rfl (lv_at hl 0 rfl) ?_
                  refine va_get (D := Y.1) (ci := 6) (v := .int (nI (th_dG (0, j4, j2 - 1)))) (C := RX6) (T := TX6) (N := 22) hx hb hts inX6 hown hK hP 0 rfl rfl 10 (by decide) (hts _ tw_3_165) (fun _ h9 => h9) rfl dX6_testGrowth_166 ?_
                  refine th_ige (tgt := 249) hx hb dX6_testGrowth_169 (by decide) (by omega) (by omega) (fun c_35 => ?_) (fun c_35 => ?_)
                  · skip
                    refine lv_iload hx hb dX6_testGrowth_249 (lv_at hl 8 rfl) ?_
                    refine lv_aload_n hx hb dX6_testGrowth_251 rfl (lv_at hl 0 rfl) ?_
                    refine lv_iload_n hx hb dX6_testGrowth_252 rfl (lv_at hl 1 rfl) ?_
                    refine lv_iconst (v := nI 0) hx hb dX6_testGrowth_253 (by decide) ?_
                    refine lv_iload_n hx hb dX6_testGrowth_254 rfl (lv_at hl 2 rfl) ?_
                    refine th_callV hx hb hml hown hts ⟨hK, hN⟩ hl hS (hP 0 _ rfl) rfl (rest := [.int y9]) (c_X6_rootOf l Y _ ro (nI 0) (nI (th_dG (0, j4, j2 - 1))) (nI ((th_wa (0, j4, j2 - 1) (th_dG (0, j4, j2 - 1))).1)) (nI ((th_wa (0, j4, j2 - 1) (th_dG (0, j4, j2 - 1))).2.1)) (nI 0) S.1 S.2.2.2.1 val trg spg (hP.sub (ws' := [(ro 0, .inr (6, [.int (nI 0), .ref (ro 1), .ref (ro 2), .int (nI S.1), .ref (ro 3), .ref (ro 4), .ref (ro 5), .int (nI S.2.2.2.1), .ref (ro 6), .ref (ro 7), .int (nI (th_dG (0, j4, j2 - 1))), .int (nI ((th_wa (0, j4, j2 - 1) (th_dG (0, j4, j2 - 1))).1)), .int (nI ((th_wa (0, j4, j2 - 1) (th_dG (0, j4, j2 - 1))).2.1)), .int (nI 0), .ref (ro 8), .ref (ro 9), .ref (ro 10), .ref (ro 11), .ref (ro 12), .ref (ro 13), .ref (ro 14), .ref (ro 15)])), (ro 1, .inl (Y.2 0, 300, .inl val)), (ro 3, .inl (Y.2 0, 8, .inl trg)), (ro 4, .inl (Y.2 0, 8, .inl spg))]) [0, 1, 3, 4] rfl) ((hD.sub (ws' := [(ro 0, .inr (6, [.int (nI 0), .ref (ro 1), .ref (ro 2), .int (nI S.1), .ref (ro 3), .ref (ro 4), .ref (ro 5), .int (nI S.2.2.2.1), .ref (ro 6), .ref (ro 7), .int (nI (th_dG (0, j4, j2 - 1))), .int (nI ((th_wa (0, j4, j2 - 1) (th_dG (0, j4, j2 - 1))).1)), .int (nI ((th_wa (0, j4, j2 - 1) (th_dG (0, j4, j2 - 1))).2.1)), .int (nI 0), .ref (ro 8), .ref (ro 9), .ref (ro 10), .ref (ro 11), .ref (ro 12), .ref (ro 13), .ref (ro 14), .ref (ro 15)])), (ro 1, .inl (Y.2 0, 300, .inl val)), (ro 3, .inl (Y.2 0, 8, .inl trg)), (ro 4, .inl (Y.2 0, 8, .inl spg))]) [0, 1, 3, 4] (by decide) rfl).weaken (fun _ _ _ _ => trivial)) j1 0 j2 (by omega) (by omega)) ok_X6_rootOf tw_4_33 dX6_testGrowth_255 rfl rfl (Nat.le_of_ble_eq_true rfl) ⟨Nat.le_of_ble_eq_true rfl, Nat.le_of_ble_eq_true rfl⟩ ⟨Nat.le_of_ble_eq_true rfl, Nat.le_of_ble_eq_true rfl⟩ (th_subL [0, 1, 3, 4] rfl) (th_ki (fun rz9 H locs hp hsm hS => ?_))
                    obtain ⟨hrz, z_36t, z_36s, hPc⟩ := hp
                    have hP : va_P Y.1 vwCl [(ro 0, .inr (6, [.int (nI 0), .ref (ro 1), .ref (ro 2), .int (nI S.1), .ref (ro 3), .ref (ro 4), .ref (ro 5), .int (nI S.2.2.2.1), .ref (ro 6), .ref (ro 7), .int (nI (th_dG (0, j4, j2 - 1))), .int (nI ((th_wa (0, j4, j2 - 1) (th_dG (0, j4, j2 - 1))).1)), .int (nI ((th_wa (0, j4, j2 - 1) (th_dG (0, j4, j2 - 1))).2.1)), .int (nI 0), .ref (ro 8), .ref (ro 9), .ref (ro 10), .ref (ro 11), .ref (ro 12), .ref (ro 13), .ref (ro 14), .ref (ro 15)])), (ro 1, .inl (Y.2 0, 300, .inl val)), (ro 2, .inl (Y.2 0, 3, .inl siz)), (ro 3, .inl (Y.2 0, 8, .inl z_36t)), (ro 4, .inl (Y.2 0, 8, .inl z_36s)), (ro 5, .inl (Y.2 0, 12, .inl pro)), (ro 6, .inl (Y.2 0, 12, .inl beg)), (ro 7, .inl (Y.2 1, 12, .inl isg)), (ro 8, .inl (Y.2 0, 64, .inl key)), (ro 9, .inl (Y.2 0, 64, .inl lev)), (ro 10, .inl (Y.2 0, 4, .inl kvi)), (ro 11, .inl (Y.2 0, 4, .inl ksz)), (ro 12, .inl (Y.2 0, 4, .inl krt)), (ro 13, .inl (Y.2 1, 4, .inl ala)), (ro 14, .inl (Y.2 0, 4, .inl fol)), (ro 15, .inl (Y.2 0, 4, .inl cts))] _ := (th_join (wr := [(ro 2, .inl (Y.2 0, 3, .inl siz)), (ro 5, .inl (Y.2 0, 12, .inl pro)), (ro 6, .inl (Y.2 0, 12, .inl beg)), (ro 7, .inl (Y.2 1, 12, .inl isg)), (ro 8, .inl (Y.2 0, 64, .inl key)), (ro 9, .inl (Y.2 0, 64, .inl lev)), (ro 10, .inl (Y.2 0, 4, .inl kvi)), (ro 11, .inl (Y.2 0, 4, .inl ksz)), (ro 12, .inl (Y.2 0, 4, .inl krt)), (ro 13, .inl (Y.2 1, 4, .inl ala)), (ro 14, .inl (Y.2 0, 4, .inl fol)), (ro 15, .inl (Y.2 0, 4, .inl cts))]) hP hD [2, 5, 6, 7, 8, 9, 10, 11, 12, 13, 14, 15] [0, 1, 3, 4] rfl rfl (by decide) hsm hPc).sub [12, 13, 0, 14, 15, 1, 2, 3, 4, 5, 6, 7, 8, 9, 10, 11] rfl
                    have hD : va_D _ [(ro 0, .inr (6, [.int (nI 0), .ref (ro 1), .ref (ro 2), .int (nI S.1), .ref (ro 3), .ref (ro 4), .ref (ro 5), .int (nI S.2.2.2.1), .ref (ro 6), .ref (ro 7), .int (nI (th_dG (0, j4, j2 - 1))), .int (nI ((th_wa (0, j4, j2 - 1) (th_dG (0, j4, j2 - 1))).1)), .int (nI ((th_wa (0, j4, j2 - 1) (th_dG (0, j4, j2 - 1))).2.1)), .int (nI 0), .ref (ro 8), .ref (ro 9), .ref (ro 10), .ref (ro 11), .ref (ro 12), .ref (ro 13), .ref (ro 14), .ref (ro 15)])), (ro 1, .inl (Y.2 0, 300, .inl val)), (ro 2, .inl (Y.2 0, 3, .inl siz)), (ro 3, .inl (Y.2 0, 8, .inl z_36t)), (ro 4, .inl (Y.2 0, 8, .inl z_36s)), (ro 5, .inl (Y.2 0, 12, .inl pro)), (ro 6, .inl (Y.2 0, 12, .inl beg)), (ro 7, .inl (Y.2 1, 12, .inl isg)), (ro 8, .inl (Y.2 0, 64, .inl key)), (ro 9, .inl (Y.2 0, 64, .inl lev)), (ro 10, .inl (Y.2 0, 4, .inl kvi)), (ro 11, .inl (Y.2 0, 4, .inl ksz)), (ro 12, .inl (Y.2 0, 4, .inl krt)), (ro 13, .inl (Y.2 1, 4, .inl ala)), (ro 14, .inl (Y.2 0, 4, .inl fol)), (ro 15, .inl (Y.2 0, 4, .inl cts))] := th_Dsame hD rfl
                    subst hrz
                    refine th_ti (th_rt_c _ _ _ (fun k9 hk9 => (hf1 _ (by omega)).1)) ?_
                    refine lv_icmp_ne (tgt := 278) hx hb dX6_testGrowth_258 (by decide) (fun c_37 => ?_) (fun c_37 => ?_)
                    · skip
                      refine lv_iconst (v := nI 0) hx hb dX6_testGrowth_278 (by decide) ?_
                      refine th_zret hx hb hr hlk hQ hS dX6_testGrowth_279 (Nat.le_of_ble_eq_true rfl) (Nat.le_of_ble_eq_true rfl) (by first | exact Or.inl rfl | exact Or.inr rfl | assumption | exact th_b01 _) ?_
                      have ek9 : k9 = th_gR (0, j4, j2 - 1) - 1 := by omega
                      rw [ek9] at hx9 hy9
                      show th_ro Y ro (_) _ _
                      unfold sp_testGrowth
                      simp only [th_qL, th_qG, zj1, zj3, zj4, zj2]
                      rw [th_ifT ⟨q1, q3⟩, th_ifT ⟨q4, q2, q6⟩]
                      exact th_roT ((th_bF (fun z9 => c_37 (hy9.trans (z9.2.2 hF0).1))).symm.trans (th_bE (th_aGE (fun j9 hj9 => hv.2.2.2.1 j9 hj9) (th_gR1 _)))) (th_rgI hP (hv))
                      
                    refine lv_iload hx hb dX6_testGrowth_261 (lv_at hl 9 rfl) ?_
                    refine lv_aload_n hx hb dX6_testGrowth_263 rfl (lv_at hl 0 rfl) ?_
                    refine lv_iload_n hx hb dX6_testGrowth_264 rfl (lv_at hl 3 rfl) ?_
                    refine lv_iconst (v := nI 0) hx hb dX6_testGrowth_265 (by decide) ?_
                    refine lv_iload hx hb dX6_testGrowth_266 (lv_at hl 4 rfl) ?_
                    refine th_callV hx hb hml hown hts ⟨hK, hN⟩ hl hS (hP 0 _ rfl) rfl (rest := [.int x9]) (c_X6_rootOf l Y _ ro (nI 0) (nI (th_dG (0, j4, j2 - 1))) (nI ((th_wa (0, j4, j2 - 1) (th_dG (0, j4, j2 - 1))).1)) (nI ((th_wa (0, j4, j2 - 1) (th_dG (0, j4, j2 - 1))).2.1)) (nI 0) S.1 S.2.2.2.1 val z_36t z_36s (hP.sub (ws' := [(ro 0, .inr (6, [.int (nI 0), .ref (ro 1), .ref (ro 2), .int (nI S.1), .ref (ro 3), .ref (ro 4), .ref (ro 5), .int (nI S.2.2.2.1), .ref (ro 6), .ref (ro 7), .int (nI (th_dG (0, j4, j2 - 1))), .int (nI ((th_wa (0, j4, j2 - 1) (th_dG (0, j4, j2 - 1))).1)), .int (nI ((th_wa (0, j4, j2 - 1) (th_dG (0, j4, j2 - 1))).2.1)), .int (nI 0), .ref (ro 8), .ref (ro 9), .ref (ro 10), .ref (ro 11), .ref (ro 12), .ref (ro 13), .ref (ro 14), .ref (ro 15)])), (ro 1, .inl (Y.2 0, 300, .inl val)), (ro 3, .inl (Y.2 0, 8, .inl z_36t)), (ro 4, .inl (Y.2 0, 8, .inl z_36s))]) [0, 1, 3, 4] rfl) ((hD.sub (ws' := [(ro 0, .inr (6, [.int (nI 0), .ref (ro 1), .ref (ro 2), .int (nI S.1), .ref (ro 3), .ref (ro 4), .ref (ro 5), .int (nI S.2.2.2.1), .ref (ro 6), .ref (ro 7), .int (nI (th_dG (0, j4, j2 - 1))), .int (nI ((th_wa (0, j4, j2 - 1) (th_dG (0, j4, j2 - 1))).1)), .int (nI ((th_wa (0, j4, j2 - 1) (th_dG (0, j4, j2 - 1))).2.1)), .int (nI 0), .ref (ro 8), .ref (ro 9), .ref (ro 10), .ref (ro 11), .ref (ro 12), .ref (ro 13), .ref (ro 14), .ref (ro 15)])), (ro 1, .inl (Y.2 0, 300, .inl val)), (ro 3, .inl (Y.2 0, 8, .inl z_36t)), (ro 4, .inl (Y.2 0, 8, .inl z_36s))]) [0, 1, 3, 4] (by decide) rfl).weaken (fun _ _ _ _ => trivial)) j3 0 j4 (by omega) (by omega)) ok_X6_rootOf tw_4_33 dX6_testGrowth_268 rfl rfl (Nat.le_of_ble_eq_true rfl) ⟨Nat.le_of_ble_eq_true rfl, Nat.le_of_ble_eq_true rfl⟩ ⟨Nat.le_of_ble_eq_true rfl, Nat.le_of_ble_eq_true rfl⟩ (th_subL [0, 1, 3, 4] rfl) (th_ki (fun rz9 H locs hp hsm hS => ?_))
                    obtain ⟨hrz, z_38t, z_38s, hPc⟩ := hp
                    have hP : va_P Y.1 vwCl [(ro 0, .inr (6, [.int (nI 0), .ref (ro 1), .ref (ro 2), .int (nI S.1), .ref (ro 3), .ref (ro 4), .ref (ro 5), .int (nI S.2.2.2.1), .ref (ro 6), .ref (ro 7), .int (nI (th_dG (0, j4, j2 - 1))), .int (nI ((th_wa (0, j4, j2 - 1) (th_dG (0, j4, j2 - 1))).1)), .int (nI ((th_wa (0, j4, j2 - 1) (th_dG (0, j4, j2 - 1))).2.1)), .int (nI 0), .ref (ro 8), .ref (ro 9), .ref (ro 10), .ref (ro 11), .ref (ro 12), .ref (ro 13), .ref (ro 14), .ref (ro 15)])), (ro 1, .inl (Y.2 0, 300, .inl val)), (ro 2, .inl (Y.2 0, 3, .inl siz)), (ro 3, .inl (Y.2 0, 8, .inl z_38t)), (ro 4, .inl (Y.2 0, 8, .inl z_38s)), (ro 5, .inl (Y.2 0, 12, .inl pro)), (ro 6, .inl (Y.2 0, 12, .inl beg)), (ro 7, .inl (Y.2 1, 12, .inl isg)), (ro 8, .inl (Y.2 0, 64, .inl key)), (ro 9, .inl (Y.2 0, 64, .inl lev)), (ro 10, .inl (Y.2 0, 4, .inl kvi)), (ro 11, .inl (Y.2 0, 4, .inl ksz)), (ro 12, .inl (Y.2 0, 4, .inl krt)), (ro 13, .inl (Y.2 1, 4, .inl ala)), (ro 14, .inl (Y.2 0, 4, .inl fol)), (ro 15, .inl (Y.2 0, 4, .inl cts))] _ := (th_join (wr := [(ro 2, .inl (Y.2 0, 3, .inl siz)), (ro 5, .inl (Y.2 0, 12, .inl pro)), (ro 6, .inl (Y.2 0, 12, .inl beg)), (ro 7, .inl (Y.2 1, 12, .inl isg)), (ro 8, .inl (Y.2 0, 64, .inl key)), (ro 9, .inl (Y.2 0, 64, .inl lev)), (ro 10, .inl (Y.2 0, 4, .inl kvi)), (ro 11, .inl (Y.2 0, 4, .inl ksz)), (ro 12, .inl (Y.2 0, 4, .inl krt)), (ro 13, .inl (Y.2 1, 4, .inl ala)), (ro 14, .inl (Y.2 0, 4, .inl fol)), (ro 15, .inl (Y.2 0, 4, .inl cts))]) hP hD [2, 5, 6, 7, 8, 9, 10, 11, 12, 13, 14, 15] [0, 1, 3, 4] rfl rfl (by decide) hsm hPc).sub [12, 13, 0, 14, 15, 1, 2, 3, 4, 5, 6, 7, 8, 9, 10, 11] rfl
                    have hD : va_D _ [(ro 0, .inr (6, [.int (nI 0), .ref (ro 1), .ref (ro 2), .int (nI S.1), .ref (ro 3), .ref (ro 4), .ref (ro 5), .int (nI S.2.2.2.1), .ref (ro 6), .ref (ro 7), .int (nI (th_dG (0, j4, j2 - 1))), .int (nI ((th_wa (0, j4, j2 - 1) (th_dG (0, j4, j2 - 1))).1)), .int (nI ((th_wa (0, j4, j2 - 1) (th_dG (0, j4, j2 - 1))).2.1)), .int (nI 0), .ref (ro 8), .ref (ro 9), .ref (ro 10), .ref (ro 11), .ref (ro 12), .ref (ro 13), .ref (ro 14), .ref (ro 15)])), (ro 1, .inl (Y.2 0, 300, .inl val)), (ro 2, .inl (Y.2 0, 3, .inl siz)), (ro 3, .inl (Y.2 0, 8, .inl z_38t)), (ro 4, .inl (Y.2 0, 8, .inl z_38s)), (ro 5, .inl (Y.2 0, 12, .inl pro)), (ro 6, .inl (Y.2 0, 12, .inl beg)), (ro 7, .inl (Y.2 1, 12, .inl isg)), (ro 8, .inl (Y.2 0, 64, .inl key)), (ro 9, .inl (Y.2 0, 64, .inl lev)), (ro 10, .inl (Y.2 0, 4, .inl kvi)), (ro 11, .inl (Y.2 0, 4, .inl ksz)), (ro 12, .inl (Y.2 0, 4, .inl krt)), (ro 13, .inl (Y.2 1, 4, .inl ala)), (ro 14, .inl (Y.2 0, 4, .inl fol)), (ro 15, .inl (Y.2 0, 4, .inl cts))] := th_Dsame hD rfl
                    subst hrz
                    refine th_ti (th_rt_c _ _ _ (fun k9 hk9 => (hf3 _ (by omega)).1)) ?_
                    refine lv_icmp_ne (tgt := 278) hx hb dX6_testGrowth_271 (by decide) (fun c_39 => ?_) (fun c_39 => ?_)
                    · skip
                      refine lv_iconst (v := nI 0) hx hb dX6_testGrowth_278 (by decide) ?_
                      refine th_zret hx hb hr hlk hQ hS dX6_testGrowth_279 (Nat.le_of_ble_eq_true rfl) (Nat.le_of_ble_eq_true rfl) (by first | exact Or.inl rfl | exact Or.inr rfl | assumption | exact th_b01 _) ?_
                      have ek9 : k9 = th_gR (0, j4, j2 - 1) - 1 := by omega
                      rw [ek9] at hx9 hy9
                      show th_ro Y ro (_) _ _
                      unfold sp_testGrowth
                      simp only [th_qL, th_qG, zj1, zj3, zj4, zj2]
                      rw [th_ifT ⟨q1, q3⟩, th_ifT ⟨q4, q2, q6⟩]
                      exact th_roT ((th_bF (fun z9 => c_39 (hx9.trans (z9.2.2 hF0).2))).symm.trans (th_bE (th_aGE (fun j9 hj9 => hv.2.2.2.1 j9 hj9) (th_gR1 _)))) (th_rgI hP (hv))
                      
                    refine lv_iconst (v := nI 1) hx hb dX6_testGrowth_274 (by decide) ?_
                    refine lv_goto (tgt := 279) hx hb dX6_testGrowth_275 (by decide) ?_
                    refine th_zret hx hb hr hlk hQ hS dX6_testGrowth_279 (Nat.le_of_ble_eq_true rfl) (Nat.le_of_ble_eq_true rfl) (by first | exact Or.inl rfl | exact Or.inr rfl | assumption | exact th_b01 _) ?_
                    have ek9 : k9 = th_gR (0, j4, j2 - 1) - 1 := by omega
                    rw [ek9] at hx9 hy9
                    show th_ro Y ro (_) _ _
                    unfold sp_testGrowth
                    simp only [th_qL, th_qG, zj1, zj3, zj4, zj2]
                    rw [th_ifT ⟨q1, q3⟩, th_ifT ⟨q4, q2, q6⟩]
                    exact th_roT ((th_bT ⟨by omega, fun z9 => absurd z9 hF0, fun _ => ⟨hy9.symm.trans c_37, hx9.symm.trans c_39⟩⟩).symm.trans (th_bE (th_aGE (fun j9 hj9 => hv.2.2.2.1 j9 hj9) (th_gR1 _)))) (th_rgI hP (hv))
                    
                  refine lv_aload_n hx hb dX6_testGrowth_172 rfl (lv_at hl 0 rfl) ?_
                  refine va_get (D := Y.1) (ci := 6) (v := .ref (ro 5)) (C := RX6) (T := TX6) (N := 22) hx hb hts inX6 hown hK hP 0 rfl rfl 6 (by decide) (hts _ tw_3_161) (fun _ h9 => h9) rfl dX6_testGrowth_173 ?_
                  refine lv_iload hx hb dX6_testGrowth_176 (lv_at hl 10 rfl) ?_
                  refine lv_iload hx hb dX6_testGrowth_178 (lv_at hl 7 rfl) ?_
                  refine lv_iadd hx hb dX6_testGrowth_180 ?_
                  refine th_ti (nI_add _ _) ?_
                  refine th_iald hx hb hK hP 5 rfl (j := (k9 + 1)) (by omega) (by omega) dX6_testGrowth_181 ?_
                  refine th_ti (show pro (k9 + 1) = pro (1 + k9) from congrArg pro (Nat.add_comm _ _)) ?_
                  refine lv_istore (lv' := [(11, .int (pro (1 + k9))), (0, .ref (ro 0)), (1, .int (nI j1)), (2, .int (nI j2)), (3, .int (nI j3)), (4, .int (nI j4)), (5, .int (nI 1)), (6, .int (nI 1)), (7, .int (nI 1)), (8, .int y9), (9, .int x9), (10, .int (nI k9))]) hx hb dX6_testGrowth_182 hl (by decide) rfl (fun ls hl => ?_)
                  refine lv_aload_n hx hb dX6_testGrowth_184 rfl (lv_at hl 1 rfl) ?_
                  refine va_get (D := Y.1) (ci := 6) (v := .ref (ro 7)) (C := RX6) (T := TX6) (N := 22) hx hb hts inX6 hown hK hP 0 rfl rfl 9 (by decide) (hts _ tw_3_164) (fun _ h9 => h9) rfl dX6_testGrowth_185 ?_
                  refine lv_aload_n hx hb dX6_testGrowth_188 rfl (lv_at hl 1 rfl) ?_
                  refine va_get (D := Y.1) (ci := 6) (v := .int (nI (th_dG (0, j4, j2 - 1)))) (C := RX6) (T := TX6) (N := 22) hx hb hts inX6 hown hK hP 0 rfl rfl 10 (by decide) (hts _ tw_3_165) (fun _ h9 => h9) rfl dX6_testGrowth_189 ?_
                  refine lv_iconst (v := nI 1) hx hb dX6_testGrowth_192 (by decide) ?_
                  refine lv_isub hx hb dX6_testGrowth_193 ?_
                  refine th_ti (pk_sub (by omega)) ?_
                  refine lv_iload hx hb dX6_testGrowth_194 (lv_at hl 11 rfl) ?_
                  refine lv_isub hx hb dX6_testGrowth_196 ?_
                  refine th_ti (pk_sub (by omega)) ?_
                  refine th_zald hx hb hK hP 7 rfl (j := (((th_dG (0, j4, j2 - 1)) - 1) - k9)) (by omega) (by omega) dX6_testGrowth_197 ?_
                  have hri := (hRB (th_dG (0, j4, j2 - 1) - 1 - k9) (by omega)).2
                  have hst := th_fd_s hx9
                  have hso := th_fo_s hy9
                  rw [show th_gR (0, j4, j2 - 1) - 1 - (1 + k9) = th_dG (0, j4, j2 - 1) - 1 - k9 by omega] at hst hso
                  by_cases hh : (th_wa (0, j4, j2 - 1) (th_dG (0, j4, j2 - 1) - 1 - k9)).2.2 < th_sp (th_wa (0, j4, j2 - 1) (th_dG (0, j4, j2 - 1) - 1 - k9)).2.1
                  · skip
                    have hF : th_gF (0, j4, j2 - 1) (th_dG (0, j4, j2 - 1) - 1 - k9) = 0 := by
                      unfold th_gF
                      rw [if_pos (by omega)]
                      exact if_pos hh
                    refine th_ti (show isg (((th_dG (0, j4, j2 - 1)) - 1) - k9) = nI 1 from hri.trans (if_pos hh)) ?_
                    refine lv_istore (lv' := [(12, .int (nI 1)), (11, .int (pro (1 + k9))), (0, .ref (ro 0)), (1, .int (nI j1)), (2, .int (nI j2)), (3, .int (nI j3)), (4, .int (nI j4)), (5, .int (nI 1)), (6, .int (nI 1)), (7, .int (nI 1)), (8, .int y9), (9, .int x9), (10, .int (nI k9))]) hx hb dX6_testGrowth_198 hl (by decide) rfl (fun ls hl => ?_)
                    refine lv_iload hx hb dX6_testGrowth_200 (lv_at hl 0 rfl) ?_
                    refine th_zeq (tgt := 215) hx hb dX6_testGrowth_202 (by decide) (by omega) (fun c_40 => by exfalso; omega) (fun c_40 => ?_)
                    refine lv_iload hx hb dX6_testGrowth_205 (lv_at hl 11 rfl) ?_
                    refine lv_iload hx hb dX6_testGrowth_207 (lv_at hl 1 rfl) ?_
                    refine th_callS hx hb hml hown hts ⟨hK, hN⟩ hl hS (rest := []) (c_X6_mix l Y _ x9 (pro (1 + k9))) ok_X6_mix tw_4_43 dX6_testGrowth_209 rfl rfl (Nat.le_of_ble_eq_true rfl) ⟨Nat.le_of_ble_eq_true rfl, Nat.le_of_ble_eq_true rfl⟩ ⟨Nat.le_of_ble_eq_true rfl, Nat.le_of_ble_eq_true rfl⟩ (fun _ h => h.elim) (th_kpi (fun locs hS => ?_))
                    refine lv_goto (tgt := 222) hx hb dX6_testGrowth_212 (by decide) ?_
                    refine lv_istore (lv' := [(9, .int (th_mx x9 (pro (1 + k9)))), (12, .int (nI 1)), (11, .int (pro (1 + k9))), (0, .ref (ro 0)), (1, .int (nI j1)), (2, .int (nI j2)), (3, .int (nI j3)), (4, .int (nI j4)), (5, .int (nI 1)), (6, .int (nI 1)), (7, .int (nI 1)), (8, .int y9), (10, .int (nI k9))]) hx hb dX6_testGrowth_222 hl (by decide) rfl (fun ls hl => ?_)
                    refine lv_iload hx hb dX6_testGrowth_224 (lv_at hl 1 rfl) ?_
                    refine th_zeq (tgt := 234) hx hb dX6_testGrowth_226 (by decide) (by omega) (fun c_41 => by exfalso; omega) (fun c_41 => ?_)
                    refine lv_iload hx hb dX6_testGrowth_229 (lv_at hl 11 rfl) ?_
                    refine lv_goto (tgt := 241) hx hb dX6_testGrowth_231 (by decide) ?_
                    refine lv_istore (lv' := [(8, .int y9), (9, .int (th_mx x9 (pro (1 + k9)))), (12, .int (nI 1)), (11, .int (pro (1 + k9))), (0, .ref (ro 0)), (1, .int (nI j1)), (2, .int (nI j2)), (3, .int (nI j3)), (4, .int (nI j4)), (5, .int (nI 1)), (6, .int (nI 1)), (7, .int (nI 1)), (10, .int (nI k9))]) hx hb dX6_testGrowth_241 hl (by decide) rfl (fun ls hl => ?_)
                    refine lv_iinc (v := nI (k9 + 1)) (lv' := [(10, .int (nI (k9 + 1))), (8, .int y9), (9, .int (th_mx x9 (pro (1 + k9)))), (12, .int (nI 1)), (11, .int (pro (1 + k9))), (0, .ref (ro 0)), (1, .int (nI j1)), (2, .int (nI j2)), (3, .int (nI j3)), (4, .int (nI j4)), (5, .int (nI 1)), (6, .int (nI 1)), (7, .int (nI 1))]) hx hb dX6_testGrowth_243 hl (k := 12) rfl (nI_add _ 1) (by decide) rfl (fun ls hl => ?_)
                    refine lv_goto (tgt := 163) hx hb dX6_testGrowth_246 (by decide) ?_
                    exact ih_34 (k9 + 1) (y9) (th_mx x9 (pro (1 + k9))) _ _ (by omega) (by omega) (hso.1 hF) (hst.1 hF) hS (lv_sub hl [5, 6, 7, 8, 9, 10, 11, 12, 1, 2, 0] rfl)
                  · skip
                    have hF : ¬ th_gF (0, j4, j2 - 1) (th_dG (0, j4, j2 - 1) - 1 - k9) = 0 := by
                      unfold th_gF
                      rw [if_pos (by omega), show th_fi (th_wa (0, j4, j2 - 1) (th_dG (0, j4, j2 - 1) - 1 - k9)) = nI 1 from if_neg hh]
                      decide
                    refine th_ti (show isg (((th_dG (0, j4, j2 - 1)) - 1) - k9) = nI 0 from hri.trans (if_neg hh)) ?_
                    refine lv_istore (lv' := [(12, .int (nI 0)), (11, .int (pro (1 + k9))), (0, .ref (ro 0)), (1, .int (nI j1)), (2, .int (nI j2)), (3, .int (nI j3)), (4, .int (nI j4)), (5, .int (nI 1)), (6, .int (nI 1)), (7, .int (nI 1)), (8, .int y9), (9, .int x9), (10, .int (nI k9))]) hx hb dX6_testGrowth_198 hl (by decide) rfl (fun ls hl => ?_)
                    refine lv_iload hx hb dX6_testGrowth_200 (lv_at hl 0 rfl) ?_
                    refine th_zeq (tgt := 215) hx hb dX6_testGrowth_202 (by decide) (by omega) (fun c_42 => ?_) (fun c_42 => by exfalso; omega)
                    refine lv_iload hx hb dX6_testGrowth_215 (lv_at hl 1 rfl) ?_
                    refine lv_iload hx hb dX6_testGrowth_217 (lv_at hl 11 rfl) ?_
                    refine th_callS hx hb hml hown hts ⟨hK, hN⟩ hl hS (rest := []) (c_X6_mix l Y _ (pro (1 + k9)) x9) ok_X6_mix tw_4_43 dX6_testGrowth_219 rfl rfl (Nat.le_of_ble_eq_true rfl) ⟨Nat.le_of_ble_eq_true rfl, Nat.le_of_ble_eq_true rfl⟩ ⟨Nat.le_of_ble_eq_true rfl, Nat.le_of_ble_eq_true rfl⟩ (fun _ h => h.elim) (th_kpi (fun locs hS => ?_))
                    refine lv_istore (lv' := [(9, .int (th_mx (pro (1 + k9)) x9)), (12, .int (nI 0)), (11, .int (pro (1 + k9))), (0, .ref (ro 0)), (1, .int (nI j1)), (2, .int (nI j2)), (3, .int (nI j3)), (4, .int (nI j4)), (5, .int (nI 1)), (6, .int (nI 1)), (7, .int (nI 1)), (8, .int y9), (10, .int (nI k9))]) hx hb dX6_testGrowth_222 hl (by decide) rfl (fun ls hl => ?_)
                    refine lv_iload hx hb dX6_testGrowth_224 (lv_at hl 1 rfl) ?_
                    refine th_zeq (tgt := 234) hx hb dX6_testGrowth_226 (by decide) (by omega) (fun c_43 => ?_) (fun c_43 => by exfalso; omega)
                    refine lv_iload hx hb dX6_testGrowth_234 (lv_at hl 2 rfl) ?_
                    refine lv_iload hx hb dX6_testGrowth_236 (lv_at hl 11 rfl) ?_
                    refine th_callS hx hb hml hown hts ⟨hK, hN⟩ hl hS (rest := []) (c_X6_mix l Y _ (pro (1 + k9)) y9) ok_X6_mix tw_4_43 dX6_testGrowth_238 rfl rfl (Nat.le_of_ble_eq_true rfl) ⟨Nat.le_of_ble_eq_true rfl, Nat.le_of_ble_eq_true rfl⟩ ⟨Nat.le_of_ble_eq_true rfl, Nat.le_of_ble_eq_true rfl⟩ (fun _ h => h.elim) (th_kpi (fun locs hS => ?_))
                    refine lv_istore (lv' := [(8, .int (th_mx (pro (1 + k9)) y9)), (9, .int (th_mx (pro (1 + k9)) x9)), (12, .int (nI 0)), (11, .int (pro (1 + k9))), (0, .ref (ro 0)), (1, .int (nI j1)), (2, .int (nI j2)), (3, .int (nI j3)), (4, .int (nI j4)), (5, .int (nI 1)), (6, .int (nI 1)), (7, .int (nI 1)), (10, .int (nI k9))]) hx hb dX6_testGrowth_241 hl (by decide) rfl (fun ls hl => ?_)
                    refine lv_iinc (v := nI (k9 + 1)) (lv' := [(10, .int (nI (k9 + 1))), (8, .int (th_mx (pro (1 + k9)) y9)), (9, .int (th_mx (pro (1 + k9)) x9)), (12, .int (nI 0)), (11, .int (pro (1 + k9))), (0, .ref (ro 0)), (1, .int (nI j1)), (2, .int (nI j2)), (3, .int (nI j3)), (4, .int (nI j4)), (5, .int (nI 1)), (6, .int (nI 1)), (7, .int (nI 1))]) hx hb dX6_testGrowth_243 hl (k := 12) rfl (nI_add _ 1) (by decide) rfl (fun ls hl => ?_)
                    refine lv_goto (tgt := 163) hx hb dX6_testGrowth_246 (by decide) ?_
                    exact ih_34 (k9 + 1) (th_mx (pro (1 + k9)) y9) (th_mx (pro (1 + k9)) x9) _ _ (by omega) (by omega) (hso.2 hF) (hst.2 hF) hS (lv_sub hl [5, 6, 7, 8, 9, 10, 11, 12, 1, 2, 0] rfl)
              exact lp_32 ((th_dG (0, j4, j2 - 1) - (0)) + 1) (0) (pro 0) (pro 0) _ _ (Nat.lt_succ_self _) (by omega) (rfl) (rfl) hS (lv_sub hl [6, 7, 8, 9, 10, 5, 4, 3, 2, 1, 0] rfl)
            refine lv_iconst (v := nI 0) hx hb dX6_testGrowth_129 (by decide) ?_
            refine th_zret hx hb hr hlk hQ hS dX6_testGrowth_130 (Nat.le_of_ble_eq_true rfl) (Nat.le_of_ble_eq_true rfl) (by first | exact Or.inl rfl | exact Or.inr rfl | assumption | exact th_b01 _) ?_
            show th_ro Y ro (_) _ _
            unfold sp_testGrowth
            simp only [th_qL, th_qG, zj1, zj3, zj4, zj2]
            rw [th_ifT ⟨q1, q3⟩, th_ifT ⟨q4, q2, q6⟩]
            exact th_roT ((th_bF (fun z9 => c_30 (by have z8 := z9.1; omega))).symm.trans (th_bE (th_aGE (fun j9 hj9 => hv.2.2.2.1 j9 hj9) (th_gR1 _)))) (th_rgI hP (hv))
            
        refine th_ti (th_bF q2) ?_
        refine th_zeq (tgt := 62) hx hb dX6_testGrowth_45 (by decide) (by omega) (fun c_44 => ?_) (fun c_44 => by exfalso; omega)
        refine lv_iconst (v := nI 0) hx hb dX6_testGrowth_62 (by decide) ?_
        refine lv_istore (lv' := [(6, .int (nI 0)), (5, .int (nI 1)), (0, .ref (ro 0)), (1, .int (nI j1)), (2, .int x2), (3, .int (nI j3)), (4, .int (nI j4))]) hx hb dX6_testGrowth_63 hl (by decide) rfl (fun ls hl => ?_)
        refine lv_aload_n hx hb dX6_testGrowth_65 rfl (lv_at hl 2 rfl) ?_
        refine lv_iload hx hb dX6_testGrowth_66 (lv_at hl 1 rfl) ?_
        refine th_zne (tgt := 75) hx hb dX6_testGrowth_68 (by decide) (by omega) (fun c_45 => ?_) (fun c_45 => by exfalso; omega)
        refine lv_iload hx hb dX6_testGrowth_75 (lv_at hl 0 rfl) ?_
        refine th_zeq (tgt := 84) hx hb dX6_testGrowth_77 (by decide) (by omega) (fun c_46 => ?_) (fun c_46 => by exfalso; omega)
        refine lv_iconst (v := nI 2) hx hb dX6_testGrowth_84 (by decide) ?_
        refine th_callV hx hb hml hown hts ⟨hK, hN⟩ hl hS (hP 0 _ rfl) rfl (rest := []) (c_X6_goesWell l Y _ ro thr stp efr esz etr S.1 S.2.2.2.1 (hP.sub (ws' := [(ro 0, .inr (6, [.int thr, .ref (ro 1), .ref (ro 2), .int (nI S.1), .ref (ro 3), .ref (ro 4), .ref (ro 5), .int (nI S.2.2.2.1), .ref (ro 6), .ref (ro 7), .int stp, .int efr, .int esz, .int etr, .ref (ro 8), .ref (ro 9), .ref (ro 10), .ref (ro 11), .ref (ro 12), .ref (ro 13), .ref (ro 14), .ref (ro 15)]))]) [0] rfl) 2 (by omega)) ok_X6_goesWell tw_4_1 dX6_testGrowth_85 rfl rfl (Nat.le_of_ble_eq_true rfl) ⟨Nat.le_of_ble_eq_true rfl, Nat.le_of_ble_eq_true rfl⟩ ⟨Nat.le_of_ble_eq_true rfl, Nat.le_of_ble_eq_true rfl⟩ (th_subL [0] rfl) (th_ki (fun rz9 H locs hp hsm hS => ?_))
        obtain ⟨hrz, hPc⟩ := hp
        have hP : va_P Y.1 vwCl [(ro 0, .inr (6, [.int (nI 2), .ref (ro 1), .ref (ro 2), .int (nI S.1), .ref (ro 3), .ref (ro 4), .ref (ro 5), .int (nI S.2.2.2.1), .ref (ro 6), .ref (ro 7), .int stp, .int efr, .int esz, .int etr, .ref (ro 8), .ref (ro 9), .ref (ro 10), .ref (ro 11), .ref (ro 12), .ref (ro 13), .ref (ro 14), .ref (ro 15)])), (ro 1, .inl (Y.2 0, 300, .inl val)), (ro 2, .inl (Y.2 0, 3, .inl siz)), (ro 3, .inl (Y.2 0, 8, .inl tre)), (ro 4, .inl (Y.2 0, 8, .inl spa)), (ro 5, .inl (Y.2 0, 12, .inl pro)), (ro 6, .inl (Y.2 0, 12, .inl bes)), (ro 7, .inl (Y.2 1, 12, .inl isr)), (ro 8, .inl (Y.2 0, 64, .inl key)), (ro 9, .inl (Y.2 0, 64, .inl lev)), (ro 10, .inl (Y.2 0, 4, .inl kvi)), (ro 11, .inl (Y.2 0, 4, .inl ksz)), (ro 12, .inl (Y.2 0, 4, .inl krt)), (ro 13, .inl (Y.2 1, 4, .inl ala)), (ro 14, .inl (Y.2 0, 4, .inl fol)), (ro 15, .inl (Y.2 0, 4, .inl cts))] _ := (th_join (wr := [(ro 1, .inl (Y.2 0, 300, .inl val)), (ro 2, .inl (Y.2 0, 3, .inl siz)), (ro 3, .inl (Y.2 0, 8, .inl tre)), (ro 4, .inl (Y.2 0, 8, .inl spa)), (ro 5, .inl (Y.2 0, 12, .inl pro)), (ro 6, .inl (Y.2 0, 12, .inl bes)), (ro 7, .inl (Y.2 1, 12, .inl isr)), (ro 8, .inl (Y.2 0, 64, .inl key)), (ro 9, .inl (Y.2 0, 64, .inl lev)), (ro 10, .inl (Y.2 0, 4, .inl kvi)), (ro 11, .inl (Y.2 0, 4, .inl ksz)), (ro 12, .inl (Y.2 0, 4, .inl krt)), (ro 13, .inl (Y.2 1, 4, .inl ala)), (ro 14, .inl (Y.2 0, 4, .inl fol)), (ro 15, .inl (Y.2 0, 4, .inl cts))]) hP hD [1, 2, 3, 4, 5, 6, 7, 8, 9, 10, 11, 12, 13, 14, 15] [0] rfl rfl (by decide) hsm hPc).sub [15, 0, 1, 2, 3, 4, 5, 6, 7, 8, 9, 10, 11, 12, 13, 14] rfl
        have hD : va_D _ [(ro 0, .inr (6, [.int (nI 2), .ref (ro 1), .ref (ro 2), .int (nI S.1), .ref (ro 3), .ref (ro 4), .ref (ro 5), .int (nI S.2.2.2.1), .ref (ro 6), .ref (ro 7), .int stp, .int efr, .int esz, .int etr, .ref (ro 8), .ref (ro 9), .ref (ro 10), .ref (ro 11), .ref (ro 12), .ref (ro 13), .ref (ro 14), .ref (ro 15)])), (ro 1, .inl (Y.2 0, 300, .inl val)), (ro 2, .inl (Y.2 0, 3, .inl siz)), (ro 3, .inl (Y.2 0, 8, .inl tre)), (ro 4, .inl (Y.2 0, 8, .inl spa)), (ro 5, .inl (Y.2 0, 12, .inl pro)), (ro 6, .inl (Y.2 0, 12, .inl bes)), (ro 7, .inl (Y.2 1, 12, .inl isr)), (ro 8, .inl (Y.2 0, 64, .inl key)), (ro 9, .inl (Y.2 0, 64, .inl lev)), (ro 10, .inl (Y.2 0, 4, .inl kvi)), (ro 11, .inl (Y.2 0, 4, .inl ksz)), (ro 12, .inl (Y.2 0, 4, .inl krt)), (ro 13, .inl (Y.2 1, 4, .inl ala)), (ro 14, .inl (Y.2 0, 4, .inl fol)), (ro 15, .inl (Y.2 0, 4, .inl cts))] := th_Dsame hD rfl
        obtain rfl : rz9 = nI 0 := by rw [hrz]; rfl
        refine th_zne (tgt := 93) hx hb dX6_testGrowth_88 (by decide) (by omega) (fun c_47 => by exfalso; omega) (fun c_47 => ?_)
        refine lv_iconst (v := nI 0) hx hb dX6_testGrowth_91 (by decide) ?_
        refine th_zret hx hb hr hlk hQ hS dX6_testGrowth_92 (Nat.le_of_ble_eq_true rfl) (Nat.le_of_ble_eq_true rfl) (by first | exact Or.inl rfl | exact Or.inr rfl | assumption | exact th_b01 _) ?_
        show th_ro Y ro (_) _ _
        unfold sp_testGrowth
        simp only [th_qL, th_qG, zj1, zj3, zj4]
        rw [th_ifT ⟨q1, q3⟩, th_ifF (fun z9 => q2 z9.2.1)]
        exact th_roF (by decide) (th_rgI hP hv)
        
      refine th_ti (th_bF q4) ?_
      refine th_zeq (tgt := 62) hx hb dX6_testGrowth_35 (by decide) (by omega) (fun c_48 => ?_) (fun c_48 => by exfalso; omega)
      refine lv_iconst (v := nI 0) hx hb dX6_testGrowth_62 (by decide) ?_
      refine lv_istore (lv' := [(6, .int (nI 0)), (5, .int (nI 1)), (0, .ref (ro 0)), (1, .int (nI j1)), (2, .int x2), (3, .int (nI j3)), (4, .int x4)]) hx hb dX6_testGrowth_63 hl (by decide) rfl (fun ls hl => ?_)
      refine lv_aload_n hx hb dX6_testGrowth_65 rfl (lv_at hl 2 rfl) ?_
      refine lv_iload hx hb dX6_testGrowth_66 (lv_at hl 1 rfl) ?_
      refine th_zne (tgt := 75) hx hb dX6_testGrowth_68 (by decide) (by omega) (fun c_49 => ?_) (fun c_49 => by exfalso; omega)
      refine lv_iload hx hb dX6_testGrowth_75 (lv_at hl 0 rfl) ?_
      refine th_zeq (tgt := 84) hx hb dX6_testGrowth_77 (by decide) (by omega) (fun c_50 => ?_) (fun c_50 => by exfalso; omega)
      refine lv_iconst (v := nI 2) hx hb dX6_testGrowth_84 (by decide) ?_
      refine th_callV hx hb hml hown hts ⟨hK, hN⟩ hl hS (hP 0 _ rfl) rfl (rest := []) (c_X6_goesWell l Y _ ro thr stp efr esz etr S.1 S.2.2.2.1 (hP.sub (ws' := [(ro 0, .inr (6, [.int thr, .ref (ro 1), .ref (ro 2), .int (nI S.1), .ref (ro 3), .ref (ro 4), .ref (ro 5), .int (nI S.2.2.2.1), .ref (ro 6), .ref (ro 7), .int stp, .int efr, .int esz, .int etr, .ref (ro 8), .ref (ro 9), .ref (ro 10), .ref (ro 11), .ref (ro 12), .ref (ro 13), .ref (ro 14), .ref (ro 15)]))]) [0] rfl) 2 (by omega)) ok_X6_goesWell tw_4_1 dX6_testGrowth_85 rfl rfl (Nat.le_of_ble_eq_true rfl) ⟨Nat.le_of_ble_eq_true rfl, Nat.le_of_ble_eq_true rfl⟩ ⟨Nat.le_of_ble_eq_true rfl, Nat.le_of_ble_eq_true rfl⟩ (th_subL [0] rfl) (th_ki (fun rz9 H locs hp hsm hS => ?_))
      obtain ⟨hrz, hPc⟩ := hp
      have hP : va_P Y.1 vwCl [(ro 0, .inr (6, [.int (nI 2), .ref (ro 1), .ref (ro 2), .int (nI S.1), .ref (ro 3), .ref (ro 4), .ref (ro 5), .int (nI S.2.2.2.1), .ref (ro 6), .ref (ro 7), .int stp, .int efr, .int esz, .int etr, .ref (ro 8), .ref (ro 9), .ref (ro 10), .ref (ro 11), .ref (ro 12), .ref (ro 13), .ref (ro 14), .ref (ro 15)])), (ro 1, .inl (Y.2 0, 300, .inl val)), (ro 2, .inl (Y.2 0, 3, .inl siz)), (ro 3, .inl (Y.2 0, 8, .inl tre)), (ro 4, .inl (Y.2 0, 8, .inl spa)), (ro 5, .inl (Y.2 0, 12, .inl pro)), (ro 6, .inl (Y.2 0, 12, .inl bes)), (ro 7, .inl (Y.2 1, 12, .inl isr)), (ro 8, .inl (Y.2 0, 64, .inl key)), (ro 9, .inl (Y.2 0, 64, .inl lev)), (ro 10, .inl (Y.2 0, 4, .inl kvi)), (ro 11, .inl (Y.2 0, 4, .inl ksz)), (ro 12, .inl (Y.2 0, 4, .inl krt)), (ro 13, .inl (Y.2 1, 4, .inl ala)), (ro 14, .inl (Y.2 0, 4, .inl fol)), (ro 15, .inl (Y.2 0, 4, .inl cts))] _ := (th_join (wr := [(ro 1, .inl (Y.2 0, 300, .inl val)), (ro 2, .inl (Y.2 0, 3, .inl siz)), (ro 3, .inl (Y.2 0, 8, .inl tre)), (ro 4, .inl (Y.2 0, 8, .inl spa)), (ro 5, .inl (Y.2 0, 12, .inl pro)), (ro 6, .inl (Y.2 0, 12, .inl bes)), (ro 7, .inl (Y.2 1, 12, .inl isr)), (ro 8, .inl (Y.2 0, 64, .inl key)), (ro 9, .inl (Y.2 0, 64, .inl lev)), (ro 10, .inl (Y.2 0, 4, .inl kvi)), (ro 11, .inl (Y.2 0, 4, .inl ksz)), (ro 12, .inl (Y.2 0, 4, .inl krt)), (ro 13, .inl (Y.2 1, 4, .inl ala)), (ro 14, .inl (Y.2 0, 4, .inl fol)), (ro 15, .inl (Y.2 0, 4, .inl cts))]) hP hD [1, 2, 3, 4, 5, 6, 7, 8, 9, 10, 11, 12, 13, 14, 15] [0] rfl rfl (by decide) hsm hPc).sub [15, 0, 1, 2, 3, 4, 5, 6, 7, 8, 9, 10, 11, 12, 13, 14] rfl
      have hD : va_D _ [(ro 0, .inr (6, [.int (nI 2), .ref (ro 1), .ref (ro 2), .int (nI S.1), .ref (ro 3), .ref (ro 4), .ref (ro 5), .int (nI S.2.2.2.1), .ref (ro 6), .ref (ro 7), .int stp, .int efr, .int esz, .int etr, .ref (ro 8), .ref (ro 9), .ref (ro 10), .ref (ro 11), .ref (ro 12), .ref (ro 13), .ref (ro 14), .ref (ro 15)])), (ro 1, .inl (Y.2 0, 300, .inl val)), (ro 2, .inl (Y.2 0, 3, .inl siz)), (ro 3, .inl (Y.2 0, 8, .inl tre)), (ro 4, .inl (Y.2 0, 8, .inl spa)), (ro 5, .inl (Y.2 0, 12, .inl pro)), (ro 6, .inl (Y.2 0, 12, .inl bes)), (ro 7, .inl (Y.2 1, 12, .inl isr)), (ro 8, .inl (Y.2 0, 64, .inl key)), (ro 9, .inl (Y.2 0, 64, .inl lev)), (ro 10, .inl (Y.2 0, 4, .inl kvi)), (ro 11, .inl (Y.2 0, 4, .inl ksz)), (ro 12, .inl (Y.2 0, 4, .inl krt)), (ro 13, .inl (Y.2 1, 4, .inl ala)), (ro 14, .inl (Y.2 0, 4, .inl fol)), (ro 15, .inl (Y.2 0, 4, .inl cts))] := th_Dsame hD rfl
      obtain rfl : rz9 = nI 0 := by rw [hrz]; rfl
      refine th_zne (tgt := 93) hx hb dX6_testGrowth_88 (by decide) (by omega) (fun c_51 => by exfalso; omega) (fun c_51 => ?_)
      refine lv_iconst (v := nI 0) hx hb dX6_testGrowth_91 (by decide) ?_
      refine th_zret hx hb hr hlk hQ hS dX6_testGrowth_92 (Nat.le_of_ble_eq_true rfl) (Nat.le_of_ble_eq_true rfl) (by first | exact Or.inl rfl | exact Or.inr rfl | assumption | exact th_b01 _) ?_
      show th_ro Y ro (_) _ _
      unfold sp_testGrowth
      simp only [th_qL, th_qG, zj1, zj3]
      rw [th_ifT ⟨q1, q3⟩, th_ifF (fun z9 => q4 z9.1)]
      exact th_roF (by decide) (th_rgI hP hv)
      
    refine th_ti (th_bF q3) ?_
    refine th_zeq (tgt := 20) hx hb dX6_testGrowth_13 (by decide) (by omega) (fun c_52 => ?_) (fun c_52 => by exfalso; omega)
    refine lv_iconst (v := nI 0) hx hb dX6_testGrowth_20 (by decide) ?_
    refine lv_istore (lv' := [(5, .int (nI 0)), (0, .ref (ro 0)), (1, .int (nI j1)), (2, .int x2), (3, .int x3), (4, .int x4)]) hx hb dX6_testGrowth_21 hl (by decide) rfl (fun ls hl => ?_)
    refine lv_iload hx hb dX6_testGrowth_23 (lv_at hl 0 rfl) ?_
    refine th_zeq (tgt := 62) hx hb dX6_testGrowth_25 (by decide) (by omega) (fun c_53 => ?_) (fun c_53 => by exfalso; omega)
    refine lv_iconst (v := nI 0) hx hb dX6_testGrowth_62 (by decide) ?_
    refine lv_istore (lv' := [(6, .int (nI 0)), (5, .int (nI 0)), (0, .ref (ro 0)), (1, .int (nI j1)), (2, .int x2), (3, .int x3), (4, .int x4)]) hx hb dX6_testGrowth_63 hl (by decide) rfl (fun ls hl => ?_)
    refine lv_aload_n hx hb dX6_testGrowth_65 rfl (lv_at hl 2 rfl) ?_
    refine lv_iload hx hb dX6_testGrowth_66 (lv_at hl 1 rfl) ?_
    refine th_zne (tgt := 75) hx hb dX6_testGrowth_68 (by decide) (by omega) (fun c_54 => by exfalso; omega) (fun c_54 => ?_)
    refine lv_iconst (v := nI 1) hx hb dX6_testGrowth_71 (by decide) ?_
    refine lv_goto (tgt := 85) hx hb dX6_testGrowth_72 (by decide) ?_
    refine th_callV hx hb hml hown hts ⟨hK, hN⟩ hl hS (hP 0 _ rfl) rfl (rest := []) (c_X6_goesWell l Y _ ro thr stp efr esz etr S.1 S.2.2.2.1 (hP.sub (ws' := [(ro 0, .inr (6, [.int thr, .ref (ro 1), .ref (ro 2), .int (nI S.1), .ref (ro 3), .ref (ro 4), .ref (ro 5), .int (nI S.2.2.2.1), .ref (ro 6), .ref (ro 7), .int stp, .int efr, .int esz, .int etr, .ref (ro 8), .ref (ro 9), .ref (ro 10), .ref (ro 11), .ref (ro 12), .ref (ro 13), .ref (ro 14), .ref (ro 15)]))]) [0] rfl) 1 (by omega)) ok_X6_goesWell tw_4_1 dX6_testGrowth_85 rfl rfl (Nat.le_of_ble_eq_true rfl) ⟨Nat.le_of_ble_eq_true rfl, Nat.le_of_ble_eq_true rfl⟩ ⟨Nat.le_of_ble_eq_true rfl, Nat.le_of_ble_eq_true rfl⟩ (th_subL [0] rfl) (th_ki (fun rz9 H locs hp hsm hS => ?_))
    obtain ⟨hrz, hPc⟩ := hp
    have hP : va_P Y.1 vwCl [(ro 0, .inr (6, [.int (nI 1), .ref (ro 1), .ref (ro 2), .int (nI S.1), .ref (ro 3), .ref (ro 4), .ref (ro 5), .int (nI S.2.2.2.1), .ref (ro 6), .ref (ro 7), .int stp, .int efr, .int esz, .int etr, .ref (ro 8), .ref (ro 9), .ref (ro 10), .ref (ro 11), .ref (ro 12), .ref (ro 13), .ref (ro 14), .ref (ro 15)])), (ro 1, .inl (Y.2 0, 300, .inl val)), (ro 2, .inl (Y.2 0, 3, .inl siz)), (ro 3, .inl (Y.2 0, 8, .inl tre)), (ro 4, .inl (Y.2 0, 8, .inl spa)), (ro 5, .inl (Y.2 0, 12, .inl pro)), (ro 6, .inl (Y.2 0, 12, .inl bes)), (ro 7, .inl (Y.2 1, 12, .inl isr)), (ro 8, .inl (Y.2 0, 64, .inl key)), (ro 9, .inl (Y.2 0, 64, .inl lev)), (ro 10, .inl (Y.2 0, 4, .inl kvi)), (ro 11, .inl (Y.2 0, 4, .inl ksz)), (ro 12, .inl (Y.2 0, 4, .inl krt)), (ro 13, .inl (Y.2 1, 4, .inl ala)), (ro 14, .inl (Y.2 0, 4, .inl fol)), (ro 15, .inl (Y.2 0, 4, .inl cts))] _ := (th_join (wr := [(ro 1, .inl (Y.2 0, 300, .inl val)), (ro 2, .inl (Y.2 0, 3, .inl siz)), (ro 3, .inl (Y.2 0, 8, .inl tre)), (ro 4, .inl (Y.2 0, 8, .inl spa)), (ro 5, .inl (Y.2 0, 12, .inl pro)), (ro 6, .inl (Y.2 0, 12, .inl bes)), (ro 7, .inl (Y.2 1, 12, .inl isr)), (ro 8, .inl (Y.2 0, 64, .inl key)), (ro 9, .inl (Y.2 0, 64, .inl lev)), (ro 10, .inl (Y.2 0, 4, .inl kvi)), (ro 11, .inl (Y.2 0, 4, .inl ksz)), (ro 12, .inl (Y.2 0, 4, .inl krt)), (ro 13, .inl (Y.2 1, 4, .inl ala)), (ro 14, .inl (Y.2 0, 4, .inl fol)), (ro 15, .inl (Y.2 0, 4, .inl cts))]) hP hD [1, 2, 3, 4, 5, 6, 7, 8, 9, 10, 11, 12, 13, 14, 15] [0] rfl rfl (by decide) hsm hPc).sub [15, 0, 1, 2, 3, 4, 5, 6, 7, 8, 9, 10, 11, 12, 13, 14] rfl
    have hD : va_D _ [(ro 0, .inr (6, [.int (nI 1), .ref (ro 1), .ref (ro 2), .int (nI S.1), .ref (ro 3), .ref (ro 4), .ref (ro 5), .int (nI S.2.2.2.1), .ref (ro 6), .ref (ro 7), .int stp, .int efr, .int esz, .int etr, .ref (ro 8), .ref (ro 9), .ref (ro 10), .ref (ro 11), .ref (ro 12), .ref (ro 13), .ref (ro 14), .ref (ro 15)])), (ro 1, .inl (Y.2 0, 300, .inl val)), (ro 2, .inl (Y.2 0, 3, .inl siz)), (ro 3, .inl (Y.2 0, 8, .inl tre)), (ro 4, .inl (Y.2 0, 8, .inl spa)), (ro 5, .inl (Y.2 0, 12, .inl pro)), (ro 6, .inl (Y.2 0, 12, .inl bes)), (ro 7, .inl (Y.2 1, 12, .inl isr)), (ro 8, .inl (Y.2 0, 64, .inl key)), (ro 9, .inl (Y.2 0, 64, .inl lev)), (ro 10, .inl (Y.2 0, 4, .inl kvi)), (ro 11, .inl (Y.2 0, 4, .inl ksz)), (ro 12, .inl (Y.2 0, 4, .inl krt)), (ro 13, .inl (Y.2 1, 4, .inl ala)), (ro 14, .inl (Y.2 0, 4, .inl fol)), (ro 15, .inl (Y.2 0, 4, .inl cts))] := th_Dsame hD rfl
    obtain rfl : rz9 = nI 0 := by rw [hrz]; rfl
    refine th_zne (tgt := 93) hx hb dX6_testGrowth_88 (by decide) (by omega) (fun c_55 => by exfalso; omega) (fun c_55 => ?_)
    refine lv_iconst (v := nI 0) hx hb dX6_testGrowth_91 (by decide) ?_
    refine th_zret hx hb hr hlk hQ hS dX6_testGrowth_92 (Nat.le_of_ble_eq_true rfl) (Nat.le_of_ble_eq_true rfl) (by first | exact Or.inl rfl | exact Or.inr rfl | assumption | exact th_b01 _) ?_
    show th_ro Y ro (_) _ _
    unfold sp_testGrowth
    simp only [th_qL, th_qG, zj1]
    rw [th_ifF (fun z9 => q3 z9.2)]
    exact th_roF (by decide) (th_rgI hP hv)
    
  refine th_ti (th_bF q1) ?_
  refine th_zeq (tgt := 20) hx hb dX6_testGrowth_5 (by decide) (by omega) (fun c_56 => ?_) (fun c_56 => by exfalso; omega)
  refine lv_iconst (v := nI 0) hx hb dX6_testGrowth_20 (by decide) ?_
  refine lv_istore (lv' := [(5, .int (nI 0)), (0, .ref (ro 0)), (1, .int x1), (2, .int x2), (3, .int x3), (4, .int x4)]) hx hb dX6_testGrowth_21 hl (by decide) rfl (fun ls hl => ?_)
  refine lv_iload hx hb dX6_testGrowth_23 (lv_at hl 0 rfl) ?_
  refine th_zeq (tgt := 62) hx hb dX6_testGrowth_25 (by decide) (by omega) (fun c_57 => ?_) (fun c_57 => by exfalso; omega)
  refine lv_iconst (v := nI 0) hx hb dX6_testGrowth_62 (by decide) ?_
  refine lv_istore (lv' := [(6, .int (nI 0)), (5, .int (nI 0)), (0, .ref (ro 0)), (1, .int x1), (2, .int x2), (3, .int x3), (4, .int x4)]) hx hb dX6_testGrowth_63 hl (by decide) rfl (fun ls hl => ?_)
  refine lv_aload_n hx hb dX6_testGrowth_65 rfl (lv_at hl 2 rfl) ?_
  refine lv_iload hx hb dX6_testGrowth_66 (lv_at hl 1 rfl) ?_
  refine th_zne (tgt := 75) hx hb dX6_testGrowth_68 (by decide) (by omega) (fun c_58 => by exfalso; omega) (fun c_58 => ?_)
  refine lv_iconst (v := nI 1) hx hb dX6_testGrowth_71 (by decide) ?_
  refine lv_goto (tgt := 85) hx hb dX6_testGrowth_72 (by decide) ?_
  refine th_callV hx hb hml hown hts ⟨hK, hN⟩ hl hS (hP 0 _ rfl) rfl (rest := []) (c_X6_goesWell l Y _ ro thr stp efr esz etr S.1 S.2.2.2.1 (hP.sub (ws' := [(ro 0, .inr (6, [.int thr, .ref (ro 1), .ref (ro 2), .int (nI S.1), .ref (ro 3), .ref (ro 4), .ref (ro 5), .int (nI S.2.2.2.1), .ref (ro 6), .ref (ro 7), .int stp, .int efr, .int esz, .int etr, .ref (ro 8), .ref (ro 9), .ref (ro 10), .ref (ro 11), .ref (ro 12), .ref (ro 13), .ref (ro 14), .ref (ro 15)]))]) [0] rfl) 1 (by omega)) ok_X6_goesWell tw_4_1 dX6_testGrowth_85 rfl rfl (Nat.le_of_ble_eq_true rfl) ⟨Nat.le_of_ble_eq_true rfl, Nat.le_of_ble_eq_true rfl⟩ ⟨Nat.le_of_ble_eq_true rfl, Nat.le_of_ble_eq_true rfl⟩ (th_subL [0] rfl) (th_ki (fun rz9 H locs hp hsm hS => ?_))
  obtain ⟨hrz, hPc⟩ := hp
  have hP : va_P Y.1 vwCl [(ro 0, .inr (6, [.int (nI 1), .ref (ro 1), .ref (ro 2), .int (nI S.1), .ref (ro 3), .ref (ro 4), .ref (ro 5), .int (nI S.2.2.2.1), .ref (ro 6), .ref (ro 7), .int stp, .int efr, .int esz, .int etr, .ref (ro 8), .ref (ro 9), .ref (ro 10), .ref (ro 11), .ref (ro 12), .ref (ro 13), .ref (ro 14), .ref (ro 15)])), (ro 1, .inl (Y.2 0, 300, .inl val)), (ro 2, .inl (Y.2 0, 3, .inl siz)), (ro 3, .inl (Y.2 0, 8, .inl tre)), (ro 4, .inl (Y.2 0, 8, .inl spa)), (ro 5, .inl (Y.2 0, 12, .inl pro)), (ro 6, .inl (Y.2 0, 12, .inl bes)), (ro 7, .inl (Y.2 1, 12, .inl isr)), (ro 8, .inl (Y.2 0, 64, .inl key)), (ro 9, .inl (Y.2 0, 64, .inl lev)), (ro 10, .inl (Y.2 0, 4, .inl kvi)), (ro 11, .inl (Y.2 0, 4, .inl ksz)), (ro 12, .inl (Y.2 0, 4, .inl krt)), (ro 13, .inl (Y.2 1, 4, .inl ala)), (ro 14, .inl (Y.2 0, 4, .inl fol)), (ro 15, .inl (Y.2 0, 4, .inl cts))] _ := (th_join (wr := [(ro 1, .inl (Y.2 0, 300, .inl val)), (ro 2, .inl (Y.2 0, 3, .inl siz)), (ro 3, .inl (Y.2 0, 8, .inl tre)), (ro 4, .inl (Y.2 0, 8, .inl spa)), (ro 5, .inl (Y.2 0, 12, .inl pro)), (ro 6, .inl (Y.2 0, 12, .inl bes)), (ro 7, .inl (Y.2 1, 12, .inl isr)), (ro 8, .inl (Y.2 0, 64, .inl key)), (ro 9, .inl (Y.2 0, 64, .inl lev)), (ro 10, .inl (Y.2 0, 4, .inl kvi)), (ro 11, .inl (Y.2 0, 4, .inl ksz)), (ro 12, .inl (Y.2 0, 4, .inl krt)), (ro 13, .inl (Y.2 1, 4, .inl ala)), (ro 14, .inl (Y.2 0, 4, .inl fol)), (ro 15, .inl (Y.2 0, 4, .inl cts))]) hP hD [1, 2, 3, 4, 5, 6, 7, 8, 9, 10, 11, 12, 13, 14, 15] [0] rfl rfl (by decide) hsm hPc).sub [15, 0, 1, 2, 3, 4, 5, 6, 7, 8, 9, 10, 11, 12, 13, 14] rfl
  have hD : va_D _ [(ro 0, .inr (6, [.int (nI 1), .ref (ro 1), .ref (ro 2), .int (nI S.1), .ref (ro 3), .ref (ro 4), .ref (ro 5), .int (nI S.2.2.2.1), .ref (ro 6), .ref (ro 7), .int stp, .int efr, .int esz, .int etr, .ref (ro 8), .ref (ro 9), .ref (ro 10), .ref (ro 11), .ref (ro 12), .ref (ro 13), .ref (ro 14), .ref (ro 15)])), (ro 1, .inl (Y.2 0, 300, .inl val)), (ro 2, .inl (Y.2 0, 3, .inl siz)), (ro 3, .inl (Y.2 0, 8, .inl tre)), (ro 4, .inl (Y.2 0, 8, .inl spa)), (ro 5, .inl (Y.2 0, 12, .inl pro)), (ro 6, .inl (Y.2 0, 12, .inl bes)), (ro 7, .inl (Y.2 1, 12, .inl isr)), (ro 8, .inl (Y.2 0, 64, .inl key)), (ro 9, .inl (Y.2 0, 64, .inl lev)), (ro 10, .inl (Y.2 0, 4, .inl kvi)), (ro 11, .inl (Y.2 0, 4, .inl ksz)), (ro 12, .inl (Y.2 0, 4, .inl krt)), (ro 13, .inl (Y.2 1, 4, .inl ala)), (ro 14, .inl (Y.2 0, 4, .inl fol)), (ro 15, .inl (Y.2 0, 4, .inl cts))] := th_Dsame hD rfl
  obtain rfl : rz9 = nI 0 := by rw [hrz]; rfl
  refine th_zne (tgt := 93) hx hb dX6_testGrowth_88 (by decide) (by omega) (fun c_59 => by exfalso; omega) (fun c_59 => ?_)
  refine lv_iconst (v := nI 0) hx hb dX6_testGrowth_91 (by decide) ?_
  refine th_zret hx hb hr hlk hQ hS dX6_testGrowth_92 (Nat.le_of_ble_eq_true rfl) (Nat.le_of_ble_eq_true rfl) (by first | exact Or.inl rfl | exact Or.inr rfl | assumption | exact th_b01 _) ?_
  show th_ro Y ro (_) _ _
  unfold sp_testGrowth
  simp only [th_qL, th_qG]
  rw [th_ifF (fun z9 => q1 z9.1)]
  exact th_roF (by decide) (th_rgI hP hv)
  

set_option maxRecDepth 100000 in
set_option maxHeartbeats 800000 in
theorem c_X6_rootAnew (l : Launch) (Y : th_Y) (H0 : Heap) (ro : Nat → Nat) (hJ : th_gJ ro 16) (S : th_S) (thr stp efr esz etr : Int32) (val siz tre spa pro bes isr key lev kvi ksz krt ala fol cts : Nat → Int32) (hP : va_P Y.1 vwCl [(ro 0, .inr (6, [.int thr, .ref (ro 1), .ref (ro 2), .int (nI S.1), .ref (ro 3), .ref (ro 4), .ref (ro 5), .int (nI S.2.2.2.1), .ref (ro 6), .ref (ro 7), .int stp, .int efr, .int esz, .int etr, .ref (ro 8), .ref (ro 9), .ref (ro 10), .ref (ro 11), .ref (ro 12), .ref (ro 13), .ref (ro 14), .ref (ro 15)])), (ro 1, .inl (Y.2 0, 300, .inl val)), (ro 2, .inl (Y.2 0, 3, .inl siz)), (ro 3, .inl (Y.2 0, 8, .inl tre)), (ro 4, .inl (Y.2 0, 8, .inl spa)), (ro 5, .inl (Y.2 0, 12, .inl pro)), (ro 6, .inl (Y.2 0, 12, .inl bes)), (ro 7, .inl (Y.2 1, 12, .inl isr)), (ro 8, .inl (Y.2 0, 64, .inl key)), (ro 9, .inl (Y.2 0, 64, .inl lev)), (ro 10, .inl (Y.2 0, 4, .inl kvi)), (ro 11, .inl (Y.2 0, 4, .inl ksz)), (ro 12, .inl (Y.2 0, 4, .inl krt)), (ro 13, .inl (Y.2 1, 4, .inl ala)), (ro 14, .inl (Y.2 0, 4, .inl fol)), (ro 15, .inl (Y.2 0, 4, .inl cts))] H0) (hv : th_RIv S val siz pro key kvi ksz krt ala fol cts) (x1 x2 : Int32) : th_M l Y yX6_rootAnew cX6_rootAnew 4 (some .int) (th_rm 6 0 0) [.ref (ro 0), .int x1, .int x2] H0 (fun z => z ∈ [ro 0, ro 1, ro 2, ro 3, ro 4, ro 5, ro 6, ro 7, ro 8, ro 9, ro 10, ro 11, ro 12, ro 13, ro 14, ro 15]) (th_ro Y ro (sp_root S x1 x2)) := by
  refine th_M.intro (by decide) (Nat.le_of_ble_eq_true rfl) ?_
  intro p e s m args below meth c ls Q hQ C hKN hl hS
  obtain ⟨hx, hb, hr, hml, hown, hts, hlk, hnm⟩ := C
  obtain ⟨hK, hN⟩ := hKN
  have hown : s.vm.findClass RX6 = some m.cls := hown
  have hl : lv_has ls 4 [(0, .ref (ro 0)), (1, .int x1), (2, .int x2)] := hl
  have hD : va_D (fun z => z ∈ [ro 0, ro 1, ro 2, ro 3, ro 4, ro 5, ro 6, ro 7, ro 8, ro 9, ro 10, ro 11, ro 12, ro 13, ro 14, ro 15]) [(ro 0, .inr (6, [.int thr, .ref (ro 1), .ref (ro 2), .int (nI S.1), .ref (ro 3), .ref (ro 4), .ref (ro 5), .int (nI S.2.2.2.1), .ref (ro 6), .ref (ro 7), .int stp, .int efr, .int esz, .int etr, .ref (ro 8), .ref (ro 9), .ref (ro 10), .ref (ro 11), .ref (ro 12), .ref (ro 13), .ref (ro 14), .ref (ro 15)])), (ro 1, .inl (Y.2 0, 300, .inl val)), (ro 2, .inl (Y.2 0, 3, .inl siz)), (ro 3, .inl (Y.2 0, 8, .inl tre)), (ro 4, .inl (Y.2 0, 8, .inl spa)), (ro 5, .inl (Y.2 0, 12, .inl pro)), (ro 6, .inl (Y.2 0, 12, .inl bes)), (ro 7, .inl (Y.2 1, 12, .inl isr)), (ro 8, .inl (Y.2 0, 64, .inl key)), (ro 9, .inl (Y.2 0, 64, .inl lev)), (ro 10, .inl (Y.2 0, 4, .inl kvi)), (ro 11, .inl (Y.2 0, 4, .inl ksz)), (ro 12, .inl (Y.2 0, 4, .inl krt)), (ro 13, .inl (Y.2 1, 4, .inl ala)), (ro 14, .inl (Y.2 0, 4, .inl fol)), (ro 15, .inl (Y.2 0, 4, .inl cts))] := th_mem (th_gD hJ [0, 1, 2, 3, 4, 5, 6, 7, 8, 9, 10, 11, 12, 13, 14, 15] (fun k9 hk9 => by simp only [List.mem_cons, List.not_mem_nil, or_false] at hk9; omega) th_nd16 rfl)
  have hv1 := hv.1
  have hv12 := hv.2.2.1
  refine lv_aload_n hx hb dX6_rootAnew_0 rfl (lv_at hl 0 rfl) ?_
  refine lv_iload_n hx hb dX6_rootAnew_1 rfl (lv_at hl 1 rfl) ?_
  refine th_callV hx hb hml hown hts ⟨hK, hN⟩ hl hS (hP 0 _ rfl) rfl (rest := []) (c_X6_isView l Y _ ro thr stp efr esz etr S.1 S.2.2.2.1 (hP.sub (ws' := [(ro 0, .inr (6, [.int thr, .ref (ro 1), .ref (ro 2), .int (nI S.1), .ref (ro 3), .ref (ro 4), .ref (ro 5), .int (nI S.2.2.2.1), .ref (ro 6), .ref (ro 7), .int stp, .int efr, .int esz, .int etr, .ref (ro 8), .ref (ro 9), .ref (ro 10), .ref (ro 11), .ref (ro 12), .ref (ro 13), .ref (ro 14), .ref (ro 15)]))]) [0] rfl) (by omega) (by omega) x1) ok_X6_isView tw_3_230 dX6_rootAnew_2 rfl rfl (Nat.le_of_ble_eq_true rfl) ⟨Nat.le_of_ble_eq_true rfl, Nat.le_of_ble_eq_true rfl⟩ ⟨Nat.le_of_ble_eq_true rfl, Nat.le_of_ble_eq_true rfl⟩ (fun _ h => h.elim) (th_kpi (fun locs hS => ?_))
  by_cases q1 : th_ir x1 0 S.1
  · refine th_ti (th_bT q1) ?_
    have uq9 := q1
    obtain ⟨j1, j1a, j1b, ux9⟩ := uq9
    subst ux9
    have zj1 : th_ix (nI j1) = j1 := th_ixN (by omega)
    obtain ⟨hn1, hs1, hf1⟩ := hv.2.1 j1 j1b
    refine th_zeq (tgt := 26) hx hb dX6_rootAnew_5 (by decide) (by omega) (fun c_1 => by exfalso; omega) (fun c_1 => ?_)
    refine lv_iload_n hx hb dX6_rootAnew_8 rfl (lv_at hl 2 rfl) ?_
    refine lv_iconst (v := nI 0) hx hb dX6_rootAnew_9 (by decide) ?_
    refine lv_aload_n hx hb dX6_rootAnew_10 rfl (lv_at hl 0 rfl) ?_
    refine va_get (D := Y.1) (ci := 6) (v := .ref (ro 2)) (C := RX6) (T := TX6) (N := 22) hx hb hts inX6 hown hK hP 0 rfl rfl 2 (by decide) (hts _ tw_3_157) (fun _ h9 => h9) rfl dX6_rootAnew_11 ?_
    refine lv_iload_n hx hb dX6_rootAnew_14 rfl (lv_at hl 1 rfl) ?_
    refine th_iald hx hb hK hP 2 rfl (j := j1) (by omega) (by omega) dX6_rootAnew_15 ?_
    refine th_ti (show siz j1 = nI (S.2.1 j1) from hs1) ?_
    refine th_callS hx hb hml hown hts ⟨hK, hN⟩ hl hS (rest := []) (c_X6_in l Y _ x2 (nI 0) (nI (S.2.1 j1))) ok_X6_in tw_3_234 dX6_rootAnew_16 rfl rfl (Nat.le_of_ble_eq_true rfl) ⟨Nat.le_of_ble_eq_true rfl, Nat.le_of_ble_eq_true rfl⟩ ⟨Nat.le_of_ble_eq_true rfl, Nat.le_of_ble_eq_true rfl⟩ (fun _ h => h.elim) (th_kpi (fun locs hS => ?_))
    refine th_ti (th_bE (th_irP (by decide) (by omega))) ?_
    by_cases q2 : th_ir x2 0 (S.2.1 j1 + 1)
    · refine th_ti (th_bT q2) ?_
      have uq9 := q2
      obtain ⟨j2, j2a, j2b, ux9⟩ := uq9
      subst ux9
      have zj2 : th_ix (nI j2) = j2 := th_ixN (by omega)
      refine th_zeq (tgt := 26) hx hb dX6_rootAnew_19 (by decide) (by omega) (fun c_2 => by exfalso; omega) (fun c_2 => ?_)
      refine lv_iconst (v := nI 1) hx hb dX6_rootAnew_22 (by decide) ?_
      refine lv_goto (tgt := 27) hx hb dX6_rootAnew_23 (by decide) ?_
      refine lv_istore_n (lv' := [(3, .int (nI 1)), (0, .ref (ro 0)), (1, .int (nI j1)), (2, .int (nI j2))]) hx hb dX6_rootAnew_27 rfl hl (by decide) rfl (fun ls hl => ?_)
      refine lv_aload_n hx hb dX6_rootAnew_28 rfl (lv_at hl 1 rfl) ?_
      refine lv_aload_n hx hb dX6_rootAnew_29 rfl (lv_at hl 1 rfl) ?_
      refine lv_iload_n hx hb dX6_rootAnew_30 rfl (lv_at hl 2 rfl) ?_
      refine th_callV hx hb hml hown hts ⟨hK, hN⟩ hl hS (hP 0 _ rfl) rfl (rest := [.ref (ro 0)]) (c_X6_isView l Y _ ro thr stp efr esz etr S.1 S.2.2.2.1 (hP.sub (ws' := [(ro 0, .inr (6, [.int thr, .ref (ro 1), .ref (ro 2), .int (nI S.1), .ref (ro 3), .ref (ro 4), .ref (ro 5), .int (nI S.2.2.2.1), .ref (ro 6), .ref (ro 7), .int stp, .int efr, .int esz, .int etr, .ref (ro 8), .ref (ro 9), .ref (ro 10), .ref (ro 11), .ref (ro 12), .ref (ro 13), .ref (ro 14), .ref (ro 15)]))]) [0] rfl) (by omega) (by omega) (nI j1)) ok_X6_isView tw_3_230 dX6_rootAnew_31 rfl rfl (Nat.le_of_ble_eq_true rfl) ⟨Nat.le_of_ble_eq_true rfl, Nat.le_of_ble_eq_true rfl⟩ ⟨Nat.le_of_ble_eq_true rfl, Nat.le_of_ble_eq_true rfl⟩ (fun _ h => h.elim) (th_kpi (fun locs hS => ?_))
      refine th_ti (th_bT q1) ?_
      refine th_zne (tgt := 41) hx hb dX6_rootAnew_34 (by decide) (by omega) (fun c_3 => ?_) (fun c_3 => by exfalso; omega)
      refine lv_iload_n hx hb dX6_rootAnew_41 rfl (lv_at hl 0 rfl) ?_
      refine th_zeq (tgt := 49) hx hb dX6_rootAnew_42 (by decide) (by omega) (fun c_4 => by exfalso; omega) (fun c_4 => ?_)
      refine lv_iconst (v := nI 0) hx hb dX6_rootAnew_45 (by decide) ?_
      refine lv_goto (tgt := 50) hx hb dX6_rootAnew_46 (by decide) ?_
      refine th_callV hx hb hml hown hts ⟨hK, hN⟩ hl hS (hP 0 _ rfl) rfl (rest := []) (c_X6_goesWell l Y _ ro thr stp efr esz etr S.1 S.2.2.2.1 (hP.sub (ws' := [(ro 0, .inr (6, [.int thr, .ref (ro 1), .ref (ro 2), .int (nI S.1), .ref (ro 3), .ref (ro 4), .ref (ro 5), .int (nI S.2.2.2.1), .ref (ro 6), .ref (ro 7), .int stp, .int efr, .int esz, .int etr, .ref (ro 8), .ref (ro 9), .ref (ro 10), .ref (ro 11), .ref (ro 12), .ref (ro 13), .ref (ro 14), .ref (ro 15)]))]) [0] rfl) 0 (by omega)) ok_X6_goesWell tw_4_1 dX6_rootAnew_50 rfl rfl (Nat.le_of_ble_eq_true rfl) ⟨Nat.le_of_ble_eq_true rfl, Nat.le_of_ble_eq_true rfl⟩ ⟨Nat.le_of_ble_eq_true rfl, Nat.le_of_ble_eq_true rfl⟩ (th_subL [0] rfl) (th_ki (fun rz9 H locs hp hsm hS => ?_))
      obtain ⟨hrz, hPc⟩ := hp
      have hP : va_P Y.1 vwCl [(ro 0, .inr (6, [.int (nI 0), .ref (ro 1), .ref (ro 2), .int (nI S.1), .ref (ro 3), .ref (ro 4), .ref (ro 5), .int (nI S.2.2.2.1), .ref (ro 6), .ref (ro 7), .int stp, .int efr, .int esz, .int etr, .ref (ro 8), .ref (ro 9), .ref (ro 10), .ref (ro 11), .ref (ro 12), .ref (ro 13), .ref (ro 14), .ref (ro 15)])), (ro 1, .inl (Y.2 0, 300, .inl val)), (ro 2, .inl (Y.2 0, 3, .inl siz)), (ro 3, .inl (Y.2 0, 8, .inl tre)), (ro 4, .inl (Y.2 0, 8, .inl spa)), (ro 5, .inl (Y.2 0, 12, .inl pro)), (ro 6, .inl (Y.2 0, 12, .inl bes)), (ro 7, .inl (Y.2 1, 12, .inl isr)), (ro 8, .inl (Y.2 0, 64, .inl key)), (ro 9, .inl (Y.2 0, 64, .inl lev)), (ro 10, .inl (Y.2 0, 4, .inl kvi)), (ro 11, .inl (Y.2 0, 4, .inl ksz)), (ro 12, .inl (Y.2 0, 4, .inl krt)), (ro 13, .inl (Y.2 1, 4, .inl ala)), (ro 14, .inl (Y.2 0, 4, .inl fol)), (ro 15, .inl (Y.2 0, 4, .inl cts))] _ := (th_join (wr := [(ro 1, .inl (Y.2 0, 300, .inl val)), (ro 2, .inl (Y.2 0, 3, .inl siz)), (ro 3, .inl (Y.2 0, 8, .inl tre)), (ro 4, .inl (Y.2 0, 8, .inl spa)), (ro 5, .inl (Y.2 0, 12, .inl pro)), (ro 6, .inl (Y.2 0, 12, .inl bes)), (ro 7, .inl (Y.2 1, 12, .inl isr)), (ro 8, .inl (Y.2 0, 64, .inl key)), (ro 9, .inl (Y.2 0, 64, .inl lev)), (ro 10, .inl (Y.2 0, 4, .inl kvi)), (ro 11, .inl (Y.2 0, 4, .inl ksz)), (ro 12, .inl (Y.2 0, 4, .inl krt)), (ro 13, .inl (Y.2 1, 4, .inl ala)), (ro 14, .inl (Y.2 0, 4, .inl fol)), (ro 15, .inl (Y.2 0, 4, .inl cts))]) hP hD [1, 2, 3, 4, 5, 6, 7, 8, 9, 10, 11, 12, 13, 14, 15] [0] rfl rfl (by decide) hsm hPc).sub [15, 0, 1, 2, 3, 4, 5, 6, 7, 8, 9, 10, 11, 12, 13, 14] rfl
      have hD : va_D _ [(ro 0, .inr (6, [.int (nI 0), .ref (ro 1), .ref (ro 2), .int (nI S.1), .ref (ro 3), .ref (ro 4), .ref (ro 5), .int (nI S.2.2.2.1), .ref (ro 6), .ref (ro 7), .int stp, .int efr, .int esz, .int etr, .ref (ro 8), .ref (ro 9), .ref (ro 10), .ref (ro 11), .ref (ro 12), .ref (ro 13), .ref (ro 14), .ref (ro 15)])), (ro 1, .inl (Y.2 0, 300, .inl val)), (ro 2, .inl (Y.2 0, 3, .inl siz)), (ro 3, .inl (Y.2 0, 8, .inl tre)), (ro 4, .inl (Y.2 0, 8, .inl spa)), (ro 5, .inl (Y.2 0, 12, .inl pro)), (ro 6, .inl (Y.2 0, 12, .inl bes)), (ro 7, .inl (Y.2 1, 12, .inl isr)), (ro 8, .inl (Y.2 0, 64, .inl key)), (ro 9, .inl (Y.2 0, 64, .inl lev)), (ro 10, .inl (Y.2 0, 4, .inl kvi)), (ro 11, .inl (Y.2 0, 4, .inl ksz)), (ro 12, .inl (Y.2 0, 4, .inl krt)), (ro 13, .inl (Y.2 1, 4, .inl ala)), (ro 14, .inl (Y.2 0, 4, .inl fol)), (ro 15, .inl (Y.2 0, 4, .inl cts))] := th_Dsame hD rfl
      obtain rfl : rz9 = nI 1 := by rw [hrz]; rfl
      refine th_zeq (tgt := 66) hx hb dX6_rootAnew_53 (by decide) (by omega) (fun c_5 => by exfalso; omega) (fun c_5 => ?_)
      refine lv_aload_n hx hb dX6_rootAnew_56 rfl (lv_at hl 1 rfl) ?_
      refine lv_iload_n hx hb dX6_rootAnew_57 rfl (lv_at hl 2 rfl) ?_
      refine lv_iconst (v := nI 0) hx hb dX6_rootAnew_58 (by decide) ?_
      refine lv_iload_n hx hb dX6_rootAnew_59 rfl (lv_at hl 3 rfl) ?_
      refine th_callV hx hb hml hown hts ⟨hK, hN⟩ hl hS (hP 0 _ rfl) rfl (rest := []) (c_X6_rootOf l Y _ ro (nI 0) stp efr esz etr S.1 S.2.2.2.1 val tre spa (hP.sub (ws' := [(ro 0, .inr (6, [.int (nI 0), .ref (ro 1), .ref (ro 2), .int (nI S.1), .ref (ro 3), .ref (ro 4), .ref (ro 5), .int (nI S.2.2.2.1), .ref (ro 6), .ref (ro 7), .int stp, .int efr, .int esz, .int etr, .ref (ro 8), .ref (ro 9), .ref (ro 10), .ref (ro 11), .ref (ro 12), .ref (ro 13), .ref (ro 14), .ref (ro 15)])), (ro 1, .inl (Y.2 0, 300, .inl val)), (ro 3, .inl (Y.2 0, 8, .inl tre)), (ro 4, .inl (Y.2 0, 8, .inl spa))]) [0, 1, 3, 4] rfl) ((hD.sub (ws' := [(ro 0, .inr (6, [.int (nI 0), .ref (ro 1), .ref (ro 2), .int (nI S.1), .ref (ro 3), .ref (ro 4), .ref (ro 5), .int (nI S.2.2.2.1), .ref (ro 6), .ref (ro 7), .int stp, .int efr, .int esz, .int etr, .ref (ro 8), .ref (ro 9), .ref (ro 10), .ref (ro 11), .ref (ro 12), .ref (ro 13), .ref (ro 14), .ref (ro 15)])), (ro 1, .inl (Y.2 0, 300, .inl val)), (ro 3, .inl (Y.2 0, 8, .inl tre)), (ro 4, .inl (Y.2 0, 8, .inl spa))]) [0, 1, 3, 4] (by decide) rfl).weaken (fun _ _ _ _ => trivial)) j1 0 j2 (by omega) (by omega)) ok_X6_rootOf tw_4_33 dX6_rootAnew_60 rfl rfl (Nat.le_of_ble_eq_true rfl) ⟨Nat.le_of_ble_eq_true rfl, Nat.le_of_ble_eq_true rfl⟩ ⟨Nat.le_of_ble_eq_true rfl, Nat.le_of_ble_eq_true rfl⟩ (th_subL [0, 1, 3, 4] rfl) (th_ki (fun rz9 H locs hp hsm hS => ?_))
      obtain ⟨hrz, z_6t, z_6s, hPc⟩ := hp
      have hP : va_P Y.1 vwCl [(ro 0, .inr (6, [.int (nI 0), .ref (ro 1), .ref (ro 2), .int (nI S.1), .ref (ro 3), .ref (ro 4), .ref (ro 5), .int (nI S.2.2.2.1), .ref (ro 6), .ref (ro 7), .int stp, .int efr, .int esz, .int etr, .ref (ro 8), .ref (ro 9), .ref (ro 10), .ref (ro 11), .ref (ro 12), .ref (ro 13), .ref (ro 14), .ref (ro 15)])), (ro 1, .inl (Y.2 0, 300, .inl val)), (ro 2, .inl (Y.2 0, 3, .inl siz)), (ro 3, .inl (Y.2 0, 8, .inl z_6t)), (ro 4, .inl (Y.2 0, 8, .inl z_6s)), (ro 5, .inl (Y.2 0, 12, .inl pro)), (ro 6, .inl (Y.2 0, 12, .inl bes)), (ro 7, .inl (Y.2 1, 12, .inl isr)), (ro 8, .inl (Y.2 0, 64, .inl key)), (ro 9, .inl (Y.2 0, 64, .inl lev)), (ro 10, .inl (Y.2 0, 4, .inl kvi)), (ro 11, .inl (Y.2 0, 4, .inl ksz)), (ro 12, .inl (Y.2 0, 4, .inl krt)), (ro 13, .inl (Y.2 1, 4, .inl ala)), (ro 14, .inl (Y.2 0, 4, .inl fol)), (ro 15, .inl (Y.2 0, 4, .inl cts))] _ := (th_join (wr := [(ro 2, .inl (Y.2 0, 3, .inl siz)), (ro 5, .inl (Y.2 0, 12, .inl pro)), (ro 6, .inl (Y.2 0, 12, .inl bes)), (ro 7, .inl (Y.2 1, 12, .inl isr)), (ro 8, .inl (Y.2 0, 64, .inl key)), (ro 9, .inl (Y.2 0, 64, .inl lev)), (ro 10, .inl (Y.2 0, 4, .inl kvi)), (ro 11, .inl (Y.2 0, 4, .inl ksz)), (ro 12, .inl (Y.2 0, 4, .inl krt)), (ro 13, .inl (Y.2 1, 4, .inl ala)), (ro 14, .inl (Y.2 0, 4, .inl fol)), (ro 15, .inl (Y.2 0, 4, .inl cts))]) hP hD [2, 5, 6, 7, 8, 9, 10, 11, 12, 13, 14, 15] [0, 1, 3, 4] rfl rfl (by decide) hsm hPc).sub [12, 13, 0, 14, 15, 1, 2, 3, 4, 5, 6, 7, 8, 9, 10, 11] rfl
      have hD : va_D _ [(ro 0, .inr (6, [.int (nI 0), .ref (ro 1), .ref (ro 2), .int (nI S.1), .ref (ro 3), .ref (ro 4), .ref (ro 5), .int (nI S.2.2.2.1), .ref (ro 6), .ref (ro 7), .int stp, .int efr, .int esz, .int etr, .ref (ro 8), .ref (ro 9), .ref (ro 10), .ref (ro 11), .ref (ro 12), .ref (ro 13), .ref (ro 14), .ref (ro 15)])), (ro 1, .inl (Y.2 0, 300, .inl val)), (ro 2, .inl (Y.2 0, 3, .inl siz)), (ro 3, .inl (Y.2 0, 8, .inl z_6t)), (ro 4, .inl (Y.2 0, 8, .inl z_6s)), (ro 5, .inl (Y.2 0, 12, .inl pro)), (ro 6, .inl (Y.2 0, 12, .inl bes)), (ro 7, .inl (Y.2 1, 12, .inl isr)), (ro 8, .inl (Y.2 0, 64, .inl key)), (ro 9, .inl (Y.2 0, 64, .inl lev)), (ro 10, .inl (Y.2 0, 4, .inl kvi)), (ro 11, .inl (Y.2 0, 4, .inl ksz)), (ro 12, .inl (Y.2 0, 4, .inl krt)), (ro 13, .inl (Y.2 1, 4, .inl ala)), (ro 14, .inl (Y.2 0, 4, .inl fol)), (ro 15, .inl (Y.2 0, 4, .inl cts))] := th_Dsame hD rfl
      subst hrz
      refine th_ti (th_rt_c _ _ _ (fun k9 hk9 => (hf1 _ (by omega)).1)) ?_
      refine lv_goto (tgt := 67) hx hb dX6_rootAnew_63 (by decide) ?_
      refine th_iret hx hb hr hlk hQ hS dX6_rootAnew_67 (Nat.le_of_ble_eq_true rfl) (Nat.le_of_ble_eq_true rfl) ?_
      show th_ro Y ro (_) _ _
      unfold sp_root
      simp only [zj1, zj2]
      rw [th_ifT q1, th_ifT q2]
      exact th_roT (rfl) (th_rgI hP (hv))
      
    refine th_ti (th_bF q2) ?_
    refine th_zeq (tgt := 26) hx hb dX6_rootAnew_19 (by decide) (by omega) (fun c_7 => ?_) (fun c_7 => by exfalso; omega)
    refine lv_iconst (v := nI 0) hx hb dX6_rootAnew_26 (by decide) ?_
    refine lv_istore_n (lv' := [(3, .int (nI 0)), (0, .ref (ro 0)), (1, .int (nI j1)), (2, .int x2)]) hx hb dX6_rootAnew_27 rfl hl (by decide) rfl (fun ls hl => ?_)
    refine lv_aload_n hx hb dX6_rootAnew_28 rfl (lv_at hl 1 rfl) ?_
    refine lv_aload_n hx hb dX6_rootAnew_29 rfl (lv_at hl 1 rfl) ?_
    refine lv_iload_n hx hb dX6_rootAnew_30 rfl (lv_at hl 2 rfl) ?_
    refine th_callV hx hb hml hown hts ⟨hK, hN⟩ hl hS (hP 0 _ rfl) rfl (rest := [.ref (ro 0)]) (c_X6_isView l Y _ ro thr stp efr esz etr S.1 S.2.2.2.1 (hP.sub (ws' := [(ro 0, .inr (6, [.int thr, .ref (ro 1), .ref (ro 2), .int (nI S.1), .ref (ro 3), .ref (ro 4), .ref (ro 5), .int (nI S.2.2.2.1), .ref (ro 6), .ref (ro 7), .int stp, .int efr, .int esz, .int etr, .ref (ro 8), .ref (ro 9), .ref (ro 10), .ref (ro 11), .ref (ro 12), .ref (ro 13), .ref (ro 14), .ref (ro 15)]))]) [0] rfl) (by omega) (by omega) (nI j1)) ok_X6_isView tw_3_230 dX6_rootAnew_31 rfl rfl (Nat.le_of_ble_eq_true rfl) ⟨Nat.le_of_ble_eq_true rfl, Nat.le_of_ble_eq_true rfl⟩ ⟨Nat.le_of_ble_eq_true rfl, Nat.le_of_ble_eq_true rfl⟩ (fun _ h => h.elim) (th_kpi (fun locs hS => ?_))
    refine th_ti (th_bT q1) ?_
    refine th_zne (tgt := 41) hx hb dX6_rootAnew_34 (by decide) (by omega) (fun c_8 => ?_) (fun c_8 => by exfalso; omega)
    refine lv_iload_n hx hb dX6_rootAnew_41 rfl (lv_at hl 0 rfl) ?_
    refine th_zeq (tgt := 49) hx hb dX6_rootAnew_42 (by decide) (by omega) (fun c_9 => ?_) (fun c_9 => by exfalso; omega)
    refine lv_iconst (v := nI 2) hx hb dX6_rootAnew_49 (by decide) ?_
    refine th_callV hx hb hml hown hts ⟨hK, hN⟩ hl hS (hP 0 _ rfl) rfl (rest := []) (c_X6_goesWell l Y _ ro thr stp efr esz etr S.1 S.2.2.2.1 (hP.sub (ws' := [(ro 0, .inr (6, [.int thr, .ref (ro 1), .ref (ro 2), .int (nI S.1), .ref (ro 3), .ref (ro 4), .ref (ro 5), .int (nI S.2.2.2.1), .ref (ro 6), .ref (ro 7), .int stp, .int efr, .int esz, .int etr, .ref (ro 8), .ref (ro 9), .ref (ro 10), .ref (ro 11), .ref (ro 12), .ref (ro 13), .ref (ro 14), .ref (ro 15)]))]) [0] rfl) 2 (by omega)) ok_X6_goesWell tw_4_1 dX6_rootAnew_50 rfl rfl (Nat.le_of_ble_eq_true rfl) ⟨Nat.le_of_ble_eq_true rfl, Nat.le_of_ble_eq_true rfl⟩ ⟨Nat.le_of_ble_eq_true rfl, Nat.le_of_ble_eq_true rfl⟩ (th_subL [0] rfl) (th_ki (fun rz9 H locs hp hsm hS => ?_))
    obtain ⟨hrz, hPc⟩ := hp
    have hP : va_P Y.1 vwCl [(ro 0, .inr (6, [.int (nI 2), .ref (ro 1), .ref (ro 2), .int (nI S.1), .ref (ro 3), .ref (ro 4), .ref (ro 5), .int (nI S.2.2.2.1), .ref (ro 6), .ref (ro 7), .int stp, .int efr, .int esz, .int etr, .ref (ro 8), .ref (ro 9), .ref (ro 10), .ref (ro 11), .ref (ro 12), .ref (ro 13), .ref (ro 14), .ref (ro 15)])), (ro 1, .inl (Y.2 0, 300, .inl val)), (ro 2, .inl (Y.2 0, 3, .inl siz)), (ro 3, .inl (Y.2 0, 8, .inl tre)), (ro 4, .inl (Y.2 0, 8, .inl spa)), (ro 5, .inl (Y.2 0, 12, .inl pro)), (ro 6, .inl (Y.2 0, 12, .inl bes)), (ro 7, .inl (Y.2 1, 12, .inl isr)), (ro 8, .inl (Y.2 0, 64, .inl key)), (ro 9, .inl (Y.2 0, 64, .inl lev)), (ro 10, .inl (Y.2 0, 4, .inl kvi)), (ro 11, .inl (Y.2 0, 4, .inl ksz)), (ro 12, .inl (Y.2 0, 4, .inl krt)), (ro 13, .inl (Y.2 1, 4, .inl ala)), (ro 14, .inl (Y.2 0, 4, .inl fol)), (ro 15, .inl (Y.2 0, 4, .inl cts))] _ := (th_join (wr := [(ro 1, .inl (Y.2 0, 300, .inl val)), (ro 2, .inl (Y.2 0, 3, .inl siz)), (ro 3, .inl (Y.2 0, 8, .inl tre)), (ro 4, .inl (Y.2 0, 8, .inl spa)), (ro 5, .inl (Y.2 0, 12, .inl pro)), (ro 6, .inl (Y.2 0, 12, .inl bes)), (ro 7, .inl (Y.2 1, 12, .inl isr)), (ro 8, .inl (Y.2 0, 64, .inl key)), (ro 9, .inl (Y.2 0, 64, .inl lev)), (ro 10, .inl (Y.2 0, 4, .inl kvi)), (ro 11, .inl (Y.2 0, 4, .inl ksz)), (ro 12, .inl (Y.2 0, 4, .inl krt)), (ro 13, .inl (Y.2 1, 4, .inl ala)), (ro 14, .inl (Y.2 0, 4, .inl fol)), (ro 15, .inl (Y.2 0, 4, .inl cts))]) hP hD [1, 2, 3, 4, 5, 6, 7, 8, 9, 10, 11, 12, 13, 14, 15] [0] rfl rfl (by decide) hsm hPc).sub [15, 0, 1, 2, 3, 4, 5, 6, 7, 8, 9, 10, 11, 12, 13, 14] rfl
    have hD : va_D _ [(ro 0, .inr (6, [.int (nI 2), .ref (ro 1), .ref (ro 2), .int (nI S.1), .ref (ro 3), .ref (ro 4), .ref (ro 5), .int (nI S.2.2.2.1), .ref (ro 6), .ref (ro 7), .int stp, .int efr, .int esz, .int etr, .ref (ro 8), .ref (ro 9), .ref (ro 10), .ref (ro 11), .ref (ro 12), .ref (ro 13), .ref (ro 14), .ref (ro 15)])), (ro 1, .inl (Y.2 0, 300, .inl val)), (ro 2, .inl (Y.2 0, 3, .inl siz)), (ro 3, .inl (Y.2 0, 8, .inl tre)), (ro 4, .inl (Y.2 0, 8, .inl spa)), (ro 5, .inl (Y.2 0, 12, .inl pro)), (ro 6, .inl (Y.2 0, 12, .inl bes)), (ro 7, .inl (Y.2 1, 12, .inl isr)), (ro 8, .inl (Y.2 0, 64, .inl key)), (ro 9, .inl (Y.2 0, 64, .inl lev)), (ro 10, .inl (Y.2 0, 4, .inl kvi)), (ro 11, .inl (Y.2 0, 4, .inl ksz)), (ro 12, .inl (Y.2 0, 4, .inl krt)), (ro 13, .inl (Y.2 1, 4, .inl ala)), (ro 14, .inl (Y.2 0, 4, .inl fol)), (ro 15, .inl (Y.2 0, 4, .inl cts))] := th_Dsame hD rfl
    obtain rfl : rz9 = nI 0 := by rw [hrz]; rfl
    refine th_zeq (tgt := 66) hx hb dX6_rootAnew_53 (by decide) (by omega) (fun c_10 => ?_) (fun c_10 => by exfalso; omega)
    refine lv_iconst (v := nI 0) hx hb dX6_rootAnew_66 (by decide) ?_
    refine th_iret hx hb hr hlk hQ hS dX6_rootAnew_67 (Nat.le_of_ble_eq_true rfl) (Nat.le_of_ble_eq_true rfl) ?_
    show th_ro Y ro (_) _ _
    unfold sp_root
    simp only [zj1]
    rw [th_ifT q1, th_ifF (fun z9 => q2 z9)]
    exact th_roF (by decide) (th_rgI hP hv)
    
  refine th_ti (th_bF q1) ?_
  refine th_zeq (tgt := 26) hx hb dX6_rootAnew_5 (by decide) (by omega) (fun c_11 => ?_) (fun c_11 => by exfalso; omega)
  refine lv_iconst (v := nI 0) hx hb dX6_rootAnew_26 (by decide) ?_
  refine lv_istore_n (lv' := [(3, .int (nI 0)), (0, .ref (ro 0)), (1, .int x1), (2, .int x2)]) hx hb dX6_rootAnew_27 rfl hl (by decide) rfl (fun ls hl => ?_)
  refine lv_aload_n hx hb dX6_rootAnew_28 rfl (lv_at hl 1 rfl) ?_
  refine lv_aload_n hx hb dX6_rootAnew_29 rfl (lv_at hl 1 rfl) ?_
  refine lv_iload_n hx hb dX6_rootAnew_30 rfl (lv_at hl 2 rfl) ?_
  refine th_callV hx hb hml hown hts ⟨hK, hN⟩ hl hS (hP 0 _ rfl) rfl (rest := [.ref (ro 0)]) (c_X6_isView l Y _ ro thr stp efr esz etr S.1 S.2.2.2.1 (hP.sub (ws' := [(ro 0, .inr (6, [.int thr, .ref (ro 1), .ref (ro 2), .int (nI S.1), .ref (ro 3), .ref (ro 4), .ref (ro 5), .int (nI S.2.2.2.1), .ref (ro 6), .ref (ro 7), .int stp, .int efr, .int esz, .int etr, .ref (ro 8), .ref (ro 9), .ref (ro 10), .ref (ro 11), .ref (ro 12), .ref (ro 13), .ref (ro 14), .ref (ro 15)]))]) [0] rfl) (by omega) (by omega) x1) ok_X6_isView tw_3_230 dX6_rootAnew_31 rfl rfl (Nat.le_of_ble_eq_true rfl) ⟨Nat.le_of_ble_eq_true rfl, Nat.le_of_ble_eq_true rfl⟩ ⟨Nat.le_of_ble_eq_true rfl, Nat.le_of_ble_eq_true rfl⟩ (fun _ h => h.elim) (th_kpi (fun locs hS => ?_))
  refine th_ti (th_bF q1) ?_
  refine th_zne (tgt := 41) hx hb dX6_rootAnew_34 (by decide) (by omega) (fun c_12 => by exfalso; omega) (fun c_12 => ?_)
  refine lv_iconst (v := nI 1) hx hb dX6_rootAnew_37 (by decide) ?_
  refine lv_goto (tgt := 50) hx hb dX6_rootAnew_38 (by decide) ?_
  refine th_callV hx hb hml hown hts ⟨hK, hN⟩ hl hS (hP 0 _ rfl) rfl (rest := []) (c_X6_goesWell l Y _ ro thr stp efr esz etr S.1 S.2.2.2.1 (hP.sub (ws' := [(ro 0, .inr (6, [.int thr, .ref (ro 1), .ref (ro 2), .int (nI S.1), .ref (ro 3), .ref (ro 4), .ref (ro 5), .int (nI S.2.2.2.1), .ref (ro 6), .ref (ro 7), .int stp, .int efr, .int esz, .int etr, .ref (ro 8), .ref (ro 9), .ref (ro 10), .ref (ro 11), .ref (ro 12), .ref (ro 13), .ref (ro 14), .ref (ro 15)]))]) [0] rfl) 1 (by omega)) ok_X6_goesWell tw_4_1 dX6_rootAnew_50 rfl rfl (Nat.le_of_ble_eq_true rfl) ⟨Nat.le_of_ble_eq_true rfl, Nat.le_of_ble_eq_true rfl⟩ ⟨Nat.le_of_ble_eq_true rfl, Nat.le_of_ble_eq_true rfl⟩ (th_subL [0] rfl) (th_ki (fun rz9 H locs hp hsm hS => ?_))
  obtain ⟨hrz, hPc⟩ := hp
  have hP : va_P Y.1 vwCl [(ro 0, .inr (6, [.int (nI 1), .ref (ro 1), .ref (ro 2), .int (nI S.1), .ref (ro 3), .ref (ro 4), .ref (ro 5), .int (nI S.2.2.2.1), .ref (ro 6), .ref (ro 7), .int stp, .int efr, .int esz, .int etr, .ref (ro 8), .ref (ro 9), .ref (ro 10), .ref (ro 11), .ref (ro 12), .ref (ro 13), .ref (ro 14), .ref (ro 15)])), (ro 1, .inl (Y.2 0, 300, .inl val)), (ro 2, .inl (Y.2 0, 3, .inl siz)), (ro 3, .inl (Y.2 0, 8, .inl tre)), (ro 4, .inl (Y.2 0, 8, .inl spa)), (ro 5, .inl (Y.2 0, 12, .inl pro)), (ro 6, .inl (Y.2 0, 12, .inl bes)), (ro 7, .inl (Y.2 1, 12, .inl isr)), (ro 8, .inl (Y.2 0, 64, .inl key)), (ro 9, .inl (Y.2 0, 64, .inl lev)), (ro 10, .inl (Y.2 0, 4, .inl kvi)), (ro 11, .inl (Y.2 0, 4, .inl ksz)), (ro 12, .inl (Y.2 0, 4, .inl krt)), (ro 13, .inl (Y.2 1, 4, .inl ala)), (ro 14, .inl (Y.2 0, 4, .inl fol)), (ro 15, .inl (Y.2 0, 4, .inl cts))] _ := (th_join (wr := [(ro 1, .inl (Y.2 0, 300, .inl val)), (ro 2, .inl (Y.2 0, 3, .inl siz)), (ro 3, .inl (Y.2 0, 8, .inl tre)), (ro 4, .inl (Y.2 0, 8, .inl spa)), (ro 5, .inl (Y.2 0, 12, .inl pro)), (ro 6, .inl (Y.2 0, 12, .inl bes)), (ro 7, .inl (Y.2 1, 12, .inl isr)), (ro 8, .inl (Y.2 0, 64, .inl key)), (ro 9, .inl (Y.2 0, 64, .inl lev)), (ro 10, .inl (Y.2 0, 4, .inl kvi)), (ro 11, .inl (Y.2 0, 4, .inl ksz)), (ro 12, .inl (Y.2 0, 4, .inl krt)), (ro 13, .inl (Y.2 1, 4, .inl ala)), (ro 14, .inl (Y.2 0, 4, .inl fol)), (ro 15, .inl (Y.2 0, 4, .inl cts))]) hP hD [1, 2, 3, 4, 5, 6, 7, 8, 9, 10, 11, 12, 13, 14, 15] [0] rfl rfl (by decide) hsm hPc).sub [15, 0, 1, 2, 3, 4, 5, 6, 7, 8, 9, 10, 11, 12, 13, 14] rfl
  have hD : va_D _ [(ro 0, .inr (6, [.int (nI 1), .ref (ro 1), .ref (ro 2), .int (nI S.1), .ref (ro 3), .ref (ro 4), .ref (ro 5), .int (nI S.2.2.2.1), .ref (ro 6), .ref (ro 7), .int stp, .int efr, .int esz, .int etr, .ref (ro 8), .ref (ro 9), .ref (ro 10), .ref (ro 11), .ref (ro 12), .ref (ro 13), .ref (ro 14), .ref (ro 15)])), (ro 1, .inl (Y.2 0, 300, .inl val)), (ro 2, .inl (Y.2 0, 3, .inl siz)), (ro 3, .inl (Y.2 0, 8, .inl tre)), (ro 4, .inl (Y.2 0, 8, .inl spa)), (ro 5, .inl (Y.2 0, 12, .inl pro)), (ro 6, .inl (Y.2 0, 12, .inl bes)), (ro 7, .inl (Y.2 1, 12, .inl isr)), (ro 8, .inl (Y.2 0, 64, .inl key)), (ro 9, .inl (Y.2 0, 64, .inl lev)), (ro 10, .inl (Y.2 0, 4, .inl kvi)), (ro 11, .inl (Y.2 0, 4, .inl ksz)), (ro 12, .inl (Y.2 0, 4, .inl krt)), (ro 13, .inl (Y.2 1, 4, .inl ala)), (ro 14, .inl (Y.2 0, 4, .inl fol)), (ro 15, .inl (Y.2 0, 4, .inl cts))] := th_Dsame hD rfl
  obtain rfl : rz9 = nI 0 := by rw [hrz]; rfl
  refine th_zeq (tgt := 66) hx hb dX6_rootAnew_53 (by decide) (by omega) (fun c_13 => ?_) (fun c_13 => by exfalso; omega)
  refine lv_iconst (v := nI 0) hx hb dX6_rootAnew_66 (by decide) ?_
  refine th_iret hx hb hr hlk hQ hS dX6_rootAnew_67 (Nat.le_of_ble_eq_true rfl) (Nat.le_of_ble_eq_true rfl) ?_
  show th_ro Y ro (_) _ _
  unfold sp_root
  rw [th_ifF (fun z9 => q1 z9)]
  exact th_roF (by decide) (th_rgI hP hv)
  

set_option maxRecDepth 100000 in
set_option maxHeartbeats 800000 in
theorem c_X6_root (l : Launch) (Y : th_Y) (H0 : Heap) (ro : Nat → Nat) (hJ : th_gJ ro 16) (S : th_S) (thr stp efr esz etr : Int32) (val siz tre spa pro bes isr key lev kvi ksz krt ala fol cts : Nat → Int32) (hP : va_P Y.1 vwCl [(ro 0, .inr (6, [.int thr, .ref (ro 1), .ref (ro 2), .int (nI S.1), .ref (ro 3), .ref (ro 4), .ref (ro 5), .int (nI S.2.2.2.1), .ref (ro 6), .ref (ro 7), .int stp, .int efr, .int esz, .int etr, .ref (ro 8), .ref (ro 9), .ref (ro 10), .ref (ro 11), .ref (ro 12), .ref (ro 13), .ref (ro 14), .ref (ro 15)])), (ro 1, .inl (Y.2 0, 300, .inl val)), (ro 2, .inl (Y.2 0, 3, .inl siz)), (ro 3, .inl (Y.2 0, 8, .inl tre)), (ro 4, .inl (Y.2 0, 8, .inl spa)), (ro 5, .inl (Y.2 0, 12, .inl pro)), (ro 6, .inl (Y.2 0, 12, .inl bes)), (ro 7, .inl (Y.2 1, 12, .inl isr)), (ro 8, .inl (Y.2 0, 64, .inl key)), (ro 9, .inl (Y.2 0, 64, .inl lev)), (ro 10, .inl (Y.2 0, 4, .inl kvi)), (ro 11, .inl (Y.2 0, 4, .inl ksz)), (ro 12, .inl (Y.2 0, 4, .inl krt)), (ro 13, .inl (Y.2 1, 4, .inl ala)), (ro 14, .inl (Y.2 0, 4, .inl fol)), (ro 15, .inl (Y.2 0, 4, .inl cts))] H0) (hv : th_RIv S val siz pro key kvi ksz krt ala fol cts) (x1 x2 : Int32) : th_M l Y yX6_root cX6_root 3 (some .int) (th_rm 7 0 0) [.ref (ro 0), .int x1, .int x2] H0 (fun z => z ∈ [ro 0, ro 1, ro 2, ro 3, ro 4, ro 5, ro 6, ro 7, ro 8, ro 9, ro 10, ro 11, ro 12, ro 13, ro 14, ro 15]) (th_ro Y ro (sp_root S x1 x2)) := by
  refine th_M.intro (by decide) (Nat.le_of_ble_eq_true rfl) ?_
  intro p e s m args below meth c ls Q hQ C hKN hl hS
  obtain ⟨hx, hb, hr, hml, hown, hts, hlk, hnm⟩ := C
  obtain ⟨hK, hN⟩ := hKN
  have hown : s.vm.findClass RX6 = some m.cls := hown
  have hl : lv_has ls 3 [(0, .ref (ro 0)), (1, .int x1), (2, .int x2)] := hl
  refine lv_aload_n hx hb dX6_root_0 rfl (lv_at hl 0 rfl) ?_
  refine lv_iload_n hx hb dX6_root_1 rfl (lv_at hl 1 rfl) ?_
  refine lv_iload_n hx hb dX6_root_2 rfl (lv_at hl 2 rfl) ?_
  refine th_callV hx hb hml hown hts ⟨hK, hN⟩ hl hS (hP 0 _ rfl) rfl (rest := []) (c_X6_rootAnew l Y _ ro hJ S thr stp efr esz etr val siz tre spa pro bes isr key lev kvi ksz krt ala fol cts hP hv x1 x2) ok_X6_rootAnew tw_4_29 dX6_root_3 rfl rfl (Nat.le_of_ble_eq_true rfl) ⟨Nat.le_of_ble_eq_true rfl, Nat.le_of_ble_eq_true rfl⟩ ⟨Nat.le_of_ble_eq_true rfl, Nat.le_of_ble_eq_true rfl⟩ (fun _ h9 => h9) (th_ki (fun rz9 H locs hp hsm hS => ?_))
  have hpz : th_ro Y ro (sp_root S x1 x2) (some (.int rz9)) H := ⟨rz9, rfl, hp.1, hp.2⟩
  refine th_iret hx hb hr hlk hQ hS dX6_root_6 (Nat.le_of_ble_eq_true rfl) (Nat.le_of_ble_eq_true rfl) ?_
  exact hpz

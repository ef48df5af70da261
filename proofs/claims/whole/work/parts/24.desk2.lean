set_option maxRecDepth 100000 in
set_option maxHeartbeats 4000000 in
theorem c_X0_provesLeaf (l : Launch) (Y : th_Y) (H0 : Heap) (dk sm y cnt : Nat) (ds : Nat → Int32) (a1 a2 a3 r F N T : Nat) (fr le fi : Nat → Int32) (hP : va_P Y.1 vwCl [(dk, .inr (0, [.int (nI cnt), .ref sm, .ref y])), (sm, .inl (Y.2 0, 12, .inl ds)), (y, .inr (4, [.int (nI r), .ref a1, .ref a2, .ref a3, .int (nI F), .int (nI N), .int (nI T)])), (a1, .inl (Y.2 0, 12, .inl fr)), (a2, .inl (Y.2 0, 12, .inl le)), (a3, .inl (Y.2 1, 12, .inl fi))] H0) (hD0 : va_D (fun _ => True) [(dk, .inr (0, [.int (nI cnt), .ref sm, .ref y])), (sm, .inl (Y.2 0, 12, .inl ds)), (y, .inr (4, [.int (nI r), .ref a1, .ref a2, .ref a3, .int (nI F), .int (nI N), .int (nI T)])), (a1, .inl (Y.2 0, 12, .inl fr)), (a2, .inl (Y.2 0, 12, .inl le)), (a3, .inl (Y.2 1, 12, .inl fi))]) (hc : cnt ≤ 12) (x0 root : Int32) (t m0 : Nat) (ht : t < m0) (hm0 : m0 ≤ 100) : th_M l Y yX0_provesLeaf cX0_provesLeaf 8 (some .boolean) (th_rm 4 0 0) [.ref dk, .int x0, .int (nI t), .int (nI m0), .int root] H0 (fun z => z ∈ [dk, sm, y, a1, a2, a3]) (fun r' H' => ∃ x' : Int32, r' = some (.int x') ∧ x' = th_b (th_aL (0, m0, t) cnt ds (th_ls x0) root) ∧ ∃ (r1 F1 N1 T1 : Nat) (fr1 le1 fi1 : Nat → Int32), va_P Y.1 vwCl [(dk, .inr (0, [.int (nI cnt), .ref sm, .ref y])), (sm, .inl (Y.2 0, 12, .inl ds)), (y, .inr (4, [.int (nI r1), .ref a1, .ref a2, .ref a3, .int (nI F1), .int (nI N1), .int (nI T1)])), (a1, .inl (Y.2 0, 12, .inl fr1)), (a2, .inl (Y.2 0, 12, .inl le1)), (a3, .inl (Y.2 1, 12, .inl fi1))] H') := by
  refine th_M.intro (by decide) (Nat.le_of_ble_eq_true rfl) ?_
  intro p e s m args below meth c ls Q hQ C hKN hl hS
  obtain ⟨hx, hb, hr, hml, hown, hts, hlk, hnm⟩ := C
  obtain ⟨hK, hN⟩ := hKN
  have hown : s.vm.findClass RX0 = some m.cls := hown
  have hl : lv_has ls 8 [(0, .ref dk), (1, .int x0), (2, .int (nI t)), (3, .int (nI m0)), (4, .int root)] := hl
  have hD : va_D (fun z => z ∈ [dk, sm, y, a1, a2, a3]) [(dk, .inr (0, [.int (nI cnt), .ref sm, .ref y])), (sm, .inl (Y.2 0, 12, .inl ds)), (y, .inr (4, [.int (nI r), .ref a1, .ref a2, .ref a3, .int (nI F), .int (nI N), .int (nI T)])), (a1, .inl (Y.2 0, 12, .inl fr)), (a2, .inl (Y.2 0, 12, .inl le)), (a3, .inl (Y.2 1, 12, .inl fi))] := th_mem hD0
  have hrw := th_rowsL (n := m0) (q := (0, m0, t)) ⟨(by omega : t < m0), (by omega : 0 + m0 ≤ m0), th_al_0 (by omega : m0 ≤ 128)⟩ (by show m0 ≤ 128; omega)
  have hd7 := hrw.1
  refine lv_aload_n hx hb dX0_provesLeaf_0 rfl (lv_at hl 0 rfl) ?_
  refine va_get (D := Y.1) (ci := 0) (v := .ref y) (C := RX0) (T := TX0) (N := 3) hx hb hts inX0 hown hK hP 0 rfl rfl 2 (by decide) (hts _ tw_1_66) (fun _ h9 => h9) rfl dX0_provesLeaf_1 ?_
  refine lv_iload_n hx hb dX0_provesLeaf_4 rfl (lv_at hl 2 rfl) ?_
  refine lv_iload_n hx hb dX0_provesLeaf_5 rfl (lv_at hl 3 rfl) ?_
  refine th_callV hx hb hml hown hts ⟨hK, hN⟩ hl hS (hP 2 _ rfl) rfl (rest := []) (c_X4_leadToLeaf l Y _ y a1 a2 a3 r F N T fr le fi (hP.sub (ws' := [(y, .inr (4, [.int (nI r), .ref a1, .ref a2, .ref a3, .int (nI F), .int (nI N), .int (nI T)])), (a1, .inl (Y.2 0, 12, .inl fr)), (a2, .inl (Y.2 0, 12, .inl le)), (a3, .inl (Y.2 1, 12, .inl fi))]) [2, 3, 4, 5] rfl) ((hD.sub (ws' := [(y, .inr (4, [.int (nI r), .ref a1, .ref a2, .ref a3, .int (nI F), .int (nI N), .int (nI T)])), (a1, .inl (Y.2 0, 12, .inl fr)), (a2, .inl (Y.2 0, 12, .inl le)), (a3, .inl (Y.2 1, 12, .inl fi))]) [2, 3, 4, 5] (by decide) rfl).weaken (fun _ _ _ _ => trivial)) m0 t (by omega) (by omega)) ok_X4_leadToLeaf tw_2_143 dX0_provesLeaf_6 rfl rfl (Nat.le_of_ble_eq_true rfl) ⟨Nat.le_of_ble_eq_true rfl, Nat.le_of_ble_eq_true rfl⟩ ⟨Nat.le_of_ble_eq_true rfl, Nat.le_of_ble_eq_true rfl⟩ (fun z hz => by simp only [List.mem_cons, List.not_mem_nil, or_false] at hz ⊢; omega) (th_kv (fun H locs hp hsm hS => ?_))
  obtain ⟨fr, le, fi, hPc, hw⟩ := hp
  have hP : va_P Y.1 vwCl [(dk, .inr (0, [.int (nI cnt), .ref sm, .ref y])), (sm, .inl (Y.2 0, 12, .inl ds)), (y, .inr (4, [.int (nI (th_dL (0, m0, t))), .ref a1, .ref a2, .ref a3, .int (nI ((th_wa (0, m0, t) (th_dL (0, m0, t))).1)), .int (nI ((th_wa (0, m0, t) (th_dL (0, m0, t))).2.1)), .int (nI ((th_wa (0, m0, t) (th_dL (0, m0, t))).2.2))])), (a1, .inl (Y.2 0, 12, .inl fr)), (a2, .inl (Y.2 0, 12, .inl le)), (a3, .inl (Y.2 1, 12, .inl fi))] _ := (th_join (wr := [(dk, .inr (0, [.int (nI cnt), .ref sm, .ref y])), (sm, .inl (Y.2 0, 12, .inl ds))]) hP hD [0, 1] [2, 3, 4, 5] rfl rfl (by decide) hsm hPc).sub [0, 1, 2, 3, 4, 5] rfl
  have hD : va_D _ [(dk, .inr (0, [.int (nI cnt), .ref sm, .ref y])), (sm, .inl (Y.2 0, 12, .inl ds)), (y, .inr (4, [.int (nI (th_dL (0, m0, t))), .ref a1, .ref a2, .ref a3, .int (nI ((th_wa (0, m0, t) (th_dL (0, m0, t))).1)), .int (nI ((th_wa (0, m0, t) (th_dL (0, m0, t))).2.1)), .int (nI ((th_wa (0, m0, t) (th_dL (0, m0, t))).2.2))])), (a1, .inl (Y.2 0, 12, .inl fr)), (a2, .inl (Y.2 0, 12, .inl le)), (a3, .inl (Y.2 1, 12, .inl fi))] := th_Dsame hD rfl
  refine lv_aload_n hx hb dX0_provesLeaf_9 rfl (lv_at hl 0 rfl) ?_
  refine va_get (D := Y.1) (ci := 0) (v := .int (nI cnt)) (C := RX0) (T := TX0) (N := 3) hx hb hts inX0 hown hK hP 0 rfl rfl 0 (by decide) (hts _ tw_1_63) (fun _ h9 => h9) rfl dX0_provesLeaf_10 ?_
  refine lv_aload_n hx hb dX0_provesLeaf_13 rfl (lv_at hl 0 rfl) ?_
  refine va_get (D := Y.1) (ci := 0) (v := .ref y) (C := RX0) (T := TX0) (N := 3) hx hb hts inX0 hown hK hP 0 rfl rfl 2 (by decide) (hts _ tw_1_66) (fun _ h9 => h9) rfl dX0_provesLeaf_14 ?_
  refine va_getN (D := Y.1) (ci := 4) (v := .int (nI (th_dL (0, m0, t)))) (C := RX4) (T := TX4) (N := 7) hx hb hts inX4 hown hK hP 2 rfl rfl 0 (by decide) (va_Nw.use rfl (tn_1_38 hN)) (fun _ h9 => h9) rfl dX0_provesLeaf_17 ?_
  refine th_ieq (tgt := 25) hx hb dX0_provesLeaf_20 (by decide) (by omega) (by omega) (fun c_1 => ?_) (fun c_1 => ?_)
  · skip
    refine lv_iload_n hx hb dX0_provesLeaf_25 rfl (lv_at hl 1 rfl) ?_
    refine th_callSN hx hb hml hown hts ⟨hK, hN⟩ hl hS (rest := []) (c_X5_leafSum l Y _ x0) ok_X5_leafSum (tn_3_13 hN) dX0_provesLeaf_26 rfl rfl (Nat.le_of_ble_eq_true rfl) ⟨Nat.le_of_ble_eq_true rfl, Nat.le_of_ble_eq_true rfl⟩ ⟨Nat.le_of_ble_eq_true rfl, Nat.le_of_ble_eq_true rfl⟩ (fun _ h => h.elim) (th_kpi (fun locs hS => ?_))
    refine lv_istore (lv' := [(5, .int (th_ls x0)), (0, .ref dk), (1, .int x0), (2, .int (nI t)), (3, .int (nI m0)), (4, .int root)]) hx hb dX0_provesLeaf_29 hl (by decide) rfl (fun ls hl => ?_)
    refine lv_iconst (v := nI 0) hx hb dX0_provesLeaf_31 (by decide) ?_
    refine lv_istore (lv' := [(6, .int (nI 0)), (5, .int (th_ls x0)), (0, .ref dk), (1, .int x0), (2, .int (nI t)), (3, .int (nI m0)), (4, .int root)]) hx hb dX0_provesLeaf_32 hl (by decide) rfl (fun ls hl => ?_)
    have lp_2 : ∀ (n_3 : Nat) (j : Nat) (x : Int32) (locs : List Loc) (ls : Array Slot), cnt - j < n_3 → (0 + j ≤ cnt) → (x = th_fd (th_dL (0, m0, t)) (th_F (0, m0, t)) ds 0 (th_ls x0) j) → va_S (fun z => z ∈ [dk, sm, y, a1, a2, a3]) H0 H locs → lv_has ls 8 [(0, .ref dk), (1, .int x0), (2, .int (nI t)), (3, .int (nI m0)), (4, .int root), (5, .int x), (6, .int (nI (0 + j)))] → W p l e (th_rm 4 0 0) s m args below meth c H locs 0 0 Q (F0 m 34 ls []) := by
      intro n_3; induction n_3 with
      | zero => intros; exfalso; omega
      | succ n_3 ih =>
        intro j x locs ls hmz hj hx9 hS hl
        refine lv_iload hx hb dX0_provesLeaf_34 (lv_at hl 6 rfl) ?_
        refine lv_aload_n hx hb dX0_provesLeaf_36 rfl (lv_at hl 0 rfl) ?_
        refine va_get (D := Y.1) (ci := 0) (v := .int (nI cnt)) (C := RX0) (T := TX0) (N := 3) hx hb hts inX0 hown hK hP 0 rfl rfl 0 (by decide) (hts _ tw_1_63) (fun _ h9 => h9) rfl dX0_provesLeaf_37 ?_
        refine th_ige (tgt := 88) hx hb dX0_provesLeaf_40 (by decide) (by omega) (by omega) (fun c_4 => ?_) (fun c_4 => ?_)
        · skip
          refine lv_iload hx hb dX0_provesLeaf_88 (lv_at hl 5 rfl) ?_
          refine lv_iload hx hb dX0_provesLeaf_90 (lv_at hl 4 rfl) ?_
          refine lv_icmp_ne (tgt := 99) hx hb dX0_provesLeaf_92 (by decide) (fun c_5 => ?_) (fun c_5 => ?_)
          · skip
            refine lv_iconst (v := nI 0) hx hb dX0_provesLeaf_99 (by decide) ?_
            refine th_zret hx hb hr hlk hQ hS dX0_provesLeaf_100 (Nat.le_of_ble_eq_true rfl) (Nat.le_of_ble_eq_true rfl) (by first | exact Or.inl rfl | exact Or.inr rfl | assumption) ?_
            have zj : j = (th_dL (0, m0, t)) := by omega
            rw [zj] at hx9
            exact ⟨_, rfl, by rw [th_bF (fun z => c_5 (hx9.trans z.2))], ⟨_, _, _, _, fr, le, fi, hP⟩⟩
          refine lv_iconst (v := nI 1) hx hb dX0_provesLeaf_95 (by decide) ?_
          refine lv_goto (tgt := 100) hx hb dX0_provesLeaf_96 (by decide) ?_
          refine th_zret hx hb hr hlk hQ hS dX0_provesLeaf_100 (Nat.le_of_ble_eq_true rfl) (Nat.le_of_ble_eq_true rfl) (by first | exact Or.inl rfl | exact Or.inr rfl | assumption) ?_
          have zj : j = (th_dL (0, m0, t)) := by omega
          rw [zj] at hx9
          exact ⟨_, rfl, by rw [th_bT ⟨c_1, hx9.symm.trans c_5⟩], ⟨_, _, _, _, fr, le, fi, hP⟩⟩
        refine lv_aload_n hx hb dX0_provesLeaf_43 rfl (lv_at hl 0 rfl) ?_
        refine lv_iload hx hb dX0_provesLeaf_44 (lv_at hl 6 rfl) ?_
        refine th_callV hx hb hml hown hts ⟨hK, hN⟩ hl hS (hP 0 _ rfl) rfl (rest := []) (c_X0_read l Y _ dk sm y cnt ds (hP.sub (ws' := [(dk, .inr (0, [.int (nI cnt), .ref sm, .ref y])), (sm, .inl (Y.2 0, 12, .inl ds))]) [0, 1] rfl) (0 + j) (by omega) (by omega)) ok_X0_read tw_2_229 dX0_provesLeaf_46 rfl rfl (Nat.le_of_ble_eq_true rfl) ⟨Nat.le_of_ble_eq_true rfl, Nat.le_of_ble_eq_true rfl⟩ ⟨Nat.le_of_ble_eq_true rfl, Nat.le_of_ble_eq_true rfl⟩ (fun _ h => h.elim) (th_kpi (fun locs hS => ?_))
        refine lv_istore (lv' := [(7, .int (ds (0 + j))), (0, .ref dk), (1, .int x0), (2, .int (nI t)), (3, .int (nI m0)), (4, .int root), (5, .int x), (6, .int (nI (0 + j)))]) hx hb dX0_provesLeaf_49 hl (by decide) rfl (fun ls hl => ?_)
        refine lv_aload_n hx hb dX0_provesLeaf_51 rfl (lv_at hl 1 rfl) ?_
        refine va_get (D := Y.1) (ci := 0) (v := .ref y) (C := RX0) (T := TX0) (N := 3) hx hb hts inX0 hown hK hP 0 rfl rfl 2 (by decide) (hts _ tw_1_66) (fun _ h9 => h9) rfl dX0_provesLeaf_52 ?_
        refine lv_iload hx hb dX0_provesLeaf_55 (lv_at hl 7 rfl) ?_
        refine th_callV hx hb hml hown hts ⟨hK, hN⟩ hl hS (hP 2 _ rfl) rfl (rest := []) (c_X4_isFirstAt l Y _ y a1 a2 a3 (th_dL (0, m0, t)) ((th_wa (0, m0, t) (th_dL (0, m0, t))).1) ((th_wa (0, m0, t) (th_dL (0, m0, t))).2.1) ((th_wa (0, m0, t) (th_dL (0, m0, t))).2.2) fr le fi (hP.sub (ws' := [(y, .inr (4, [.int (nI (th_dL (0, m0, t))), .ref a1, .ref a2, .ref a3, .int (nI ((th_wa (0, m0, t) (th_dL (0, m0, t))).1)), .int (nI ((th_wa (0, m0, t) (th_dL (0, m0, t))).2.1)), .int (nI ((th_wa (0, m0, t) (th_dL (0, m0, t))).2.2))])), (a1, .inl (Y.2 0, 12, .inl fr)), (a2, .inl (Y.2 0, 12, .inl le)), (a3, .inl (Y.2 1, 12, .inl fi))]) [2, 3, 4, 5] rfl) (0 + j) (by omega) (by omega) (by rw [(hw _ (by omega)).2.2]; exact th_F01 (0, m0, t) _)) ok_X4_isFirstAt tw_3_14 dX0_provesLeaf_57 rfl rfl (Nat.le_of_ble_eq_true rfl) ⟨Nat.le_of_ble_eq_true rfl, Nat.le_of_ble_eq_true rfl⟩ ⟨Nat.le_of_ble_eq_true rfl, Nat.le_of_ble_eq_true rfl⟩ (fun _ h => h.elim) (th_kpi (fun locs hS => ?_))
        refine th_ti (show _ = th_F (0, m0, t) ((th_dL (0, m0, t)) - 1 - (0 + j)) from (hw _ (by omega)).2.2) ?_
        refine lv_if_eq (tgt := 73) hx hb dX0_provesLeaf_60 (by decide) (fun c_6 => ?_) (fun c_6 => ?_)
        · skip
          refine lv_iload hx hb dX0_provesLeaf_73 (lv_at hl 6 rfl) ?_
          refine lv_iload hx hb dX0_provesLeaf_75 (lv_at hl 0 rfl) ?_
          refine th_callSN hx hb hml hown hts ⟨hK, hN⟩ hl hS (rest := []) (c_X5_mix l Y _ x (ds (0 + j))) ok_X5_mix (tn_3_18 hN) dX0_provesLeaf_77 rfl rfl (Nat.le_of_ble_eq_true rfl) ⟨Nat.le_of_ble_eq_true rfl, Nat.le_of_ble_eq_true rfl⟩ ⟨Nat.le_of_ble_eq_true rfl, Nat.le_of_ble_eq_true rfl⟩ (fun _ h => h.elim) (th_kpi (fun locs hS => ?_))
          refine lv_istore (lv' := [(5, .int (th_mx x (ds (0 + j)))), (7, .int (ds (0 + j))), (0, .ref dk), (1, .int x0), (2, .int (nI t)), (3, .int (nI m0)), (4, .int root), (6, .int (nI (0 + j)))]) hx hb dX0_provesLeaf_80 hl (by decide) rfl (fun ls hl => ?_)
          refine lv_iinc (v := nI (0 + (j + 1))) (lv' := [(6, .int (nI (0 + (j + 1)))), (5, .int (th_mx x (ds (0 + j)))), (7, .int (ds (0 + j))), (0, .ref dk), (1, .int x0), (2, .int (nI t)), (3, .int (nI m0)), (4, .int root)]) hx hb dX0_provesLeaf_82 hl (k := 7) rfl ((nI_add _ 1).trans (congrArg nI (by omega))) (by decide) rfl (fun ls hl => ?_)
          refine lv_goto (tgt := 34) hx hb dX0_provesLeaf_85 (by decide) ?_
          exact ih (j + 1) (th_mx x (ds (0 + j))) _ _ (by omega) (by omega) ((th_fd_s hx9).1 c_6) hS (lv_sub hl [3, 4, 5, 6, 7, 1, 0] rfl)
        refine lv_iload hx hb dX0_provesLeaf_63 (lv_at hl 0 rfl) ?_
        refine lv_iload hx hb dX0_provesLeaf_65 (lv_at hl 6 rfl) ?_
        refine th_callSN hx hb hml hown hts ⟨hK, hN⟩ hl hS (rest := []) (c_X5_mix l Y _ (ds (0 + j)) x) ok_X5_mix (tn_3_18 hN) dX0_provesLeaf_67 rfl rfl (Nat.le_of_ble_eq_true rfl) ⟨Nat.le_of_ble_eq_true rfl, Nat.le_of_ble_eq_true rfl⟩ ⟨Nat.le_of_ble_eq_true rfl, Nat.le_of_ble_eq_true rfl⟩ (fun _ h => h.elim) (th_kpi (fun locs hS => ?_))
        refine lv_goto (tgt := 80) hx hb dX0_provesLeaf_70 (by decide) ?_
        refine lv_istore (lv' := [(5, .int (th_mx (ds (0 + j)) x)), (7, .int (ds (0 + j))), (0, .ref dk), (1, .int x0), (2, .int (nI t)), (3, .int (nI m0)), (4, .int root), (6, .int (nI (0 + j)))]) hx hb dX0_provesLeaf_80 hl (by decide) rfl (fun ls hl => ?_)
        refine lv_iinc (v := nI (0 + (j + 1))) (lv' := [(6, .int (nI (0 + (j + 1)))), (5, .int (th_mx (ds (0 + j)) x)), (7, .int (ds (0 + j))), (0, .ref dk), (1, .int x0), (2, .int (nI t)), (3, .int (nI m0)), (4, .int root)]) hx hb dX0_provesLeaf_82 hl (k := 7) rfl ((nI_add _ 1).trans (congrArg nI (by omega))) (by decide) rfl (fun ls hl => ?_)
        refine lv_goto (tgt := 34) hx hb dX0_provesLeaf_85 (by decide) ?_
        exact ih (j + 1) (th_mx (ds (0 + j)) x) _ _ (by omega) (by omega) ((th_fd_s hx9).2 c_6) hS (lv_sub hl [3, 4, 5, 6, 7, 1, 0] rfl)
    exact lp_2 ((cnt - (0)) + 1) (0) (th_ls x0) _ _ (Nat.lt_succ_self _) (by omega) (rfl) hS (lv_sub hl [2, 3, 4, 5, 6, 1, 0] rfl)
  refine lv_iconst (v := nI 0) hx hb dX0_provesLeaf_23 (by decide) ?_
  refine th_zret hx hb hr hlk hQ hS dX0_provesLeaf_24 (Nat.le_of_ble_eq_true rfl) (Nat.le_of_ble_eq_true rfl) (by first | exact Or.inl rfl | exact Or.inr rfl | assumption) ?_
  exact ⟨_, rfl, by rw [th_bF (fun z => c_1 z.1)], ⟨_, _, _, _, fr, le, fi, hP⟩⟩

set_option maxRecDepth 100000 in
set_option maxHeartbeats 4000000 in
theorem c_X0_provesGrowth (l : Launch) (Y : th_Y) (H0 : Heap) (dk sm y cnt : Nat) (ds : Nat → Int32) (a1 a2 a3 r F N T : Nat) (fr le fi : Nat → Int32) (hP : va_P Y.1 vwCl [(dk, .inr (0, [.int (nI cnt), .ref sm, .ref y])), (sm, .inl (Y.2 0, 12, .inl ds)), (y, .inr (4, [.int (nI r), .ref a1, .ref a2, .ref a3, .int (nI F), .int (nI N), .int (nI T)])), (a1, .inl (Y.2 0, 12, .inl fr)), (a2, .inl (Y.2 0, 12, .inl le)), (a3, .inl (Y.2 1, 12, .inl fi))] H0) (hD0 : va_D (fun _ => True) [(dk, .inr (0, [.int (nI cnt), .ref sm, .ref y])), (sm, .inl (Y.2 0, 12, .inl ds)), (y, .inr (4, [.int (nI r), .ref a1, .ref a2, .ref a3, .int (nI F), .int (nI N), .int (nI T)])), (a1, .inl (Y.2 0, 12, .inl fr)), (a2, .inl (Y.2 0, 12, .inl le)), (a3, .inl (Y.2 1, 12, .inl fi))]) (hc : cnt ≤ 12) (old root : Int32) (k0 m0 : Nat) (hk1 : 1 ≤ k0) (hk0 : k0 ≤ m0) (hm0 : m0 ≤ 100) : th_M l Y yX0_provesGrowth cX0_provesGrowth 11 (some .boolean) (th_rm 4 0 0) [.ref dk, .int (nI k0), .int old, .int (nI m0), .int root] H0 (fun z => z ∈ [dk, sm, y, a1, a2, a3]) (fun r' H' => ∃ x' : Int32, r' = some (.int x') ∧ x' = th_b (th_aG (0, m0, k0 - 1) cnt ds old root) ∧ ∃ (r1 F1 N1 T1 : Nat) (fr1 le1 fi1 : Nat → Int32), va_P Y.1 vwCl [(dk, .inr (0, [.int (nI cnt), .ref sm, .ref y])), (sm, .inl (Y.2 0, 12, .inl ds)), (y, .inr (4, [.int (nI r1), .ref a1, .ref a2, .ref a3, .int (nI F1), .int (nI N1), .int (nI T1)])), (a1, .inl (Y.2 0, 12, .inl fr1)), (a2, .inl (Y.2 0, 12, .inl le1)), (a3, .inl (Y.2 1, 12, .inl fi1))] H') := by
  refine th_M.intro (by decide) (Nat.le_of_ble_eq_true rfl) ?_
  intro p e s m args below meth c ls Q hQ C hKN hl hS
  obtain ⟨hx, hb, hr, hml, hown, hts, hlk, hnm⟩ := C
  obtain ⟨hK, hN⟩ := hKN
  have hown : s.vm.findClass RX0 = some m.cls := hown
  have hl : lv_has ls 11 [(0, .ref dk), (1, .int (nI k0)), (2, .int old), (3, .int (nI m0)), (4, .int root)] := hl
  have hD : va_D (fun z => z ∈ [dk, sm, y, a1, a2, a3]) [(dk, .inr (0, [.int (nI cnt), .ref sm, .ref y])), (sm, .inl (Y.2 0, 12, .inl ds)), (y, .inr (4, [.int (nI r), .ref a1, .ref a2, .ref a3, .int (nI F), .int (nI N), .int (nI T)])), (a1, .inl (Y.2 0, 12, .inl fr)), (a2, .inl (Y.2 0, 12, .inl le)), (a3, .inl (Y.2 1, 12, .inl fi))] := th_mem hD0
  have hrw := th_rowsG (n := m0) (q := (0, m0, k0 - 1)) ⟨(by omega : k0 - 1 < m0), (by omega : 0 + m0 ≤ m0), th_al_0 (by omega : m0 ≤ 128)⟩ (by show m0 ≤ 128; omega)
  have hd7 := hrw.1
  have zR : th_gR (0, m0, k0 - 1) = 0 → (th_wa (0, m0, k0 - 1) (th_dG (0, m0, k0 - 1))).1 = 0 := fun z => by unfold th_gR at z; split at z; assumption; omega
  refine lv_aload_n hx hb dX0_provesGrowth_0 rfl (lv_at hl 0 rfl) ?_
  refine va_get (D := Y.1) (ci := 0) (v := .ref y) (C := RX0) (T := TX0) (N := 3) hx hb hts inX0 hown hK hP 0 rfl rfl 2 (by decide) (hts _ tw_1_66) (fun _ h9 => h9) rfl dX0_provesGrowth_1 ?_
  refine lv_iload_n hx hb dX0_provesGrowth_4 rfl (lv_at hl 1 rfl) ?_
  refine lv_iload_n hx hb dX0_provesGrowth_5 rfl (lv_at hl 3 rfl) ?_
  refine th_callV hx hb hml hown hts ⟨hK, hN⟩ hl hS (hP 2 _ rfl) rfl (rest := []) (c_X4_leadToGrowth l Y _ y a1 a2 a3 r F N T fr le fi (hP.sub (ws' := [(y, .inr (4, [.int (nI r), .ref a1, .ref a2, .ref a3, .int (nI F), .int (nI N), .int (nI T)])), (a1, .inl (Y.2 0, 12, .inl fr)), (a2, .inl (Y.2 0, 12, .inl le)), (a3, .inl (Y.2 1, 12, .inl fi))]) [2, 3, 4, 5] rfl) ((hD.sub (ws' := [(y, .inr (4, [.int (nI r), .ref a1, .ref a2, .ref a3, .int (nI F), .int (nI N), .int (nI T)])), (a1, .inl (Y.2 0, 12, .inl fr)), (a2, .inl (Y.2 0, 12, .inl le)), (a3, .inl (Y.2 1, 12, .inl fi))]) [2, 3, 4, 5] (by decide) rfl).weaken (fun _ _ _ _ => trivial)) m0 k0 (by omega) (by omega) (by omega)) ok_X4_leadToGrowth tw_2_180 dX0_provesGrowth_6 rfl rfl (Nat.le_of_ble_eq_true rfl) ⟨Nat.le_of_ble_eq_true rfl, Nat.le_of_ble_eq_true rfl⟩ ⟨Nat.le_of_ble_eq_true rfl, Nat.le_of_ble_eq_true rfl⟩ (fun z hz => by simp only [List.mem_cons, List.not_mem_nil, or_false] at hz ⊢; omega) (th_kv (fun H locs hp hsm hS => ?_))
  obtain ⟨fr, le, fi, hPc, hw⟩ := hp
  have hP : va_P Y.1 vwCl [(dk, .inr (0, [.int (nI cnt), .ref sm, .ref y])), (sm, .inl (Y.2 0, 12, .inl ds)), (y, .inr (4, [.int (nI (th_gR (0, m0, k0 - 1))), .ref a1, .ref a2, .ref a3, .int (nI ((th_wa (0, m0, k0 - 1) (th_dG (0, m0, k0 - 1))).1)), .int (nI ((th_wa (0, m0, k0 - 1) (th_dG (0, m0, k0 - 1))).2.1)), .int (nI ((th_wa (0, m0, k0 - 1) (th_dG (0, m0, k0 - 1))).2.2))])), (a1, .inl (Y.2 0, 12, .inl fr)), (a2, .inl (Y.2 0, 12, .inl le)), (a3, .inl (Y.2 1, 12, .inl fi))] _ := (th_join (wr := [(dk, .inr (0, [.int (nI cnt), .ref sm, .ref y])), (sm, .inl (Y.2 0, 12, .inl ds))]) hP hD [0, 1] [2, 3, 4, 5] rfl rfl (by decide) hsm hPc).sub [0, 1, 2, 3, 4, 5] rfl
  have hD : va_D _ [(dk, .inr (0, [.int (nI cnt), .ref sm, .ref y])), (sm, .inl (Y.2 0, 12, .inl ds)), (y, .inr (4, [.int (nI (th_gR (0, m0, k0 - 1))), .ref a1, .ref a2, .ref a3, .int (nI ((th_wa (0, m0, k0 - 1) (th_dG (0, m0, k0 - 1))).1)), .int (nI ((th_wa (0, m0, k0 - 1) (th_dG (0, m0, k0 - 1))).2.1)), .int (nI ((th_wa (0, m0, k0 - 1) (th_dG (0, m0, k0 - 1))).2.2))])), (a1, .inl (Y.2 0, 12, .inl fr)), (a2, .inl (Y.2 0, 12, .inl le)), (a3, .inl (Y.2 1, 12, .inl fi))] := th_Dsame hD rfl
  refine lv_aload_n hx hb dX0_provesGrowth_9 rfl (lv_at hl 0 rfl) ?_
  refine va_get (D := Y.1) (ci := 0) (v := .int (nI cnt)) (C := RX0) (T := TX0) (N := 3) hx hb hts inX0 hown hK hP 0 rfl rfl 0 (by decide) (hts _ tw_1_63) (fun _ h9 => h9) rfl dX0_provesGrowth_10 ?_
  refine lv_aload_n hx hb dX0_provesGrowth_13 rfl (lv_at hl 0 rfl) ?_
  refine va_get (D := Y.1) (ci := 0) (v := .ref y) (C := RX0) (T := TX0) (N := 3) hx hb hts inX0 hown hK hP 0 rfl rfl 2 (by decide) (hts _ tw_1_66) (fun _ h9 => h9) rfl dX0_provesGrowth_14 ?_
  refine va_getN (D := Y.1) (ci := 4) (v := .int (nI (th_gR (0, m0, k0 - 1)))) (C := RX4) (T := TX4) (N := 7) hx hb hts inX4 hown hK hP 2 rfl rfl 0 (by decide) (va_Nw.use rfl (tn_1_38 hN)) (fun _ h9 => h9) rfl dX0_provesGrowth_17 ?_
  refine th_ieq (tgt := 25) hx hb dX0_provesGrowth_20 (by decide) (by omega) (by omega) (fun c_1 => ?_) (fun c_1 => ?_)
  · skip
    refine lv_aload_n hx hb dX0_provesGrowth_25 rfl (lv_at hl 0 rfl) ?_
    refine va_get (D := Y.1) (ci := 0) (v := .ref y) (C := RX0) (T := TX0) (N := 3) hx hb hts inX0 hown hK hP 0 rfl rfl 2 (by decide) (hts _ tw_1_66) (fun _ h9 => h9) rfl dX0_provesGrowth_26 ?_
    refine th_callV hx hb hml hown hts ⟨hK, hN⟩ hl hS (hP 2 _ rfl) rfl (rest := []) (c_X4_endsInTrust l Y _ y a1 a2 a3 (th_gR (0, m0, k0 - 1)) ((th_wa (0, m0, k0 - 1) (th_dG (0, m0, k0 - 1))).1) ((th_wa (0, m0, k0 - 1) (th_dG (0, m0, k0 - 1))).2.1) ((th_wa (0, m0, k0 - 1) (th_dG (0, m0, k0 - 1))).2.2) fr le fi (hP.sub (ws' := [(y, .inr (4, [.int (nI (th_gR (0, m0, k0 - 1))), .ref a1, .ref a2, .ref a3, .int (nI ((th_wa (0, m0, k0 - 1) (th_dG (0, m0, k0 - 1))).1)), .int (nI ((th_wa (0, m0, k0 - 1) (th_dG (0, m0, k0 - 1))).2.1)), .int (nI ((th_wa (0, m0, k0 - 1) (th_dG (0, m0, k0 - 1))).2.2))])), (a1, .inl (Y.2 0, 12, .inl fr)), (a2, .inl (Y.2 0, 12, .inl le)), (a3, .inl (Y.2 1, 12, .inl fi))]) [2, 3, 4, 5] rfl) (by have zF := hrw.2.1; have zG := th_gwF (n := m0) (q := (0, m0, k0 - 1)) ⟨(by omega : k0 - 1 < m0), (by omega : 0 + m0 ≤ m0), th_al_0 (by omega : m0 ≤ 128)⟩ (by show m0 ≤ 128; omega); omega)) ok_X4_endsInTrust tw_3_30 dX0_provesGrowth_29 rfl rfl (Nat.le_of_ble_eq_true rfl) ⟨Nat.le_of_ble_eq_true rfl, Nat.le_of_ble_eq_true rfl⟩ ⟨Nat.le_of_ble_eq_true rfl, Nat.le_of_ble_eq_true rfl⟩ (fun _ h => h.elim) (th_kpi (fun locs hS => ?_))
    by_cases cF : (th_wa (0, m0, k0 - 1) (th_dG (0, m0, k0 - 1))).1 = 0
    · rw [if_pos cF]
      refine lv_istore (lv' := [(5, .int (nI 1)), (0, .ref dk), (1, .int (nI k0)), (2, .int old), (3, .int (nI m0)), (4, .int root)]) hx hb dX0_provesGrowth_32 hl (by decide) rfl (fun ls hl => ?_)
      refine lv_iload hx hb dX0_provesGrowth_34 (lv_at hl 0 rfl) ?_
      refine th_zeq (tgt := 43) hx hb dX0_provesGrowth_36 (by decide) (by omega) (fun c_2 => by exfalso; omega) (fun c_2 => ?_)
      refine lv_iload_n hx hb dX0_provesGrowth_39 rfl (lv_at hl 3 rfl) ?_
      refine lv_goto (tgt := 48) hx hb dX0_provesGrowth_40 (by decide) ?_
      refine lv_istore (lv' := [(6, .int old), (5, .int (nI 1)), (0, .ref dk), (1, .int (nI k0)), (2, .int old), (3, .int (nI m0)), (4, .int root)]) hx hb dX0_provesGrowth_48 hl (by decide) rfl (fun ls hl => ?_)
      refine lv_iload hx hb dX0_provesGrowth_50 (lv_at hl 0 rfl) ?_
      refine lv_istore (lv' := [(7, .int old), (6, .int old), (5, .int (nI 1)), (0, .ref dk), (1, .int (nI k0)), (2, .int old), (3, .int (nI m0)), (4, .int root)]) hx hb dX0_provesGrowth_52 hl (by decide) rfl (fun ls hl => ?_)
      refine lv_iload hx hb dX0_provesGrowth_54 (lv_at hl 2 rfl) ?_
      refine th_zeq (tgt := 63) hx hb dX0_provesGrowth_56 (by decide) (by omega) (fun c_3 => by exfalso; omega) (fun c_3 => ?_)
      refine lv_iconst (v := nI 0) hx hb dX0_provesGrowth_59 (by decide) ?_
      refine lv_goto (tgt := 64) hx hb dX0_provesGrowth_60 (by decide) ?_
      refine lv_istore (lv' := [(8, .int (nI 0)), (7, .int old), (6, .int old), (5, .int (nI 1)), (0, .ref dk), (1, .int (nI k0)), (2, .int old), (3, .int (nI m0)), (4, .int root)]) hx hb dX0_provesGrowth_64 hl (by decide) rfl (fun ls hl => ?_)
      have lp_4 : ∀ (n_5 : Nat) (j : Nat) (xo : Int32) (x : Int32) (locs : List Loc) (ls : Array Slot), cnt - j < n_5 → (0 + j ≤ cnt) → (xo = th_fo (th_gR (0, m0, k0 - 1)) (th_gF (0, m0, k0 - 1)) ds 0 (old) j) → (x = th_fd (th_gR (0, m0, k0 - 1)) (th_gF (0, m0, k0 - 1)) ds 0 (old) j) → va_S (fun z => z ∈ [dk, sm, y, a1, a2, a3]) H0 H locs → lv_has ls 11 [(0, .ref dk), (1, .int (nI k0)), (2, .int old), (3, .int (nI m0)), (4, .int root), (5, .int (nI 1)), (6, .int xo), (7, .int x), (8, .int (nI (0 + j)))] → W p l e (th_rm 4 0 0) s m args below meth c H locs 0 0 Q (F0 m 66 ls []) := by
        intro n_5; induction n_5 with
        | zero => intros; exfalso; omega
        | succ n_5 ih =>
          intro j xo x locs ls hmz hj ho9 hx9 hS hl
          refine lv_iload hx hb dX0_provesGrowth_66 (lv_at hl 8 rfl) ?_
          refine lv_aload_n hx hb dX0_provesGrowth_68 rfl (lv_at hl 0 rfl) ?_
          refine va_get (D := Y.1) (ci := 0) (v := .int (nI cnt)) (C := RX0) (T := TX0) (N := 3) hx hb hts inX0 hown hK hP 0 rfl rfl 0 (by decide) (hts _ tw_1_63) (fun _ h9 => h9) rfl dX0_provesGrowth_69 ?_
          refine th_ige (tgt := 143) hx hb dX0_provesGrowth_72 (by decide) (by omega) (by omega) (fun c_6 => ?_) (fun c_6 => ?_)
          · skip
            refine lv_iload hx hb dX0_provesGrowth_143 (lv_at hl 6 rfl) ?_
            refine lv_iload_n hx hb dX0_provesGrowth_145 rfl (lv_at hl 2 rfl) ?_
            refine lv_icmp_ne (tgt := 160) hx hb dX0_provesGrowth_146 (by decide) (fun c_7 => ?_) (fun c_7 => ?_)
            · skip
              refine lv_iconst (v := nI 0) hx hb dX0_provesGrowth_160 (by decide) ?_
              refine th_zret hx hb hr hlk hQ hS dX0_provesGrowth_161 (Nat.le_of_ble_eq_true rfl) (Nat.le_of_ble_eq_true rfl) (by first | exact Or.inl rfl | exact Or.inr rfl | assumption) ?_
              have zj : j = (th_gR (0, m0, k0 - 1)) := by omega
              rw [zj] at hx9 ho9
              exact ⟨_, rfl, by rw [th_bF (fun z => c_7 (ho9.trans (z.2.1 cF).1))], ⟨_, _, _, _, fr, le, fi, hP⟩⟩
            refine lv_iload hx hb dX0_provesGrowth_149 (lv_at hl 7 rfl) ?_
            refine lv_iload hx hb dX0_provesGrowth_151 (lv_at hl 4 rfl) ?_
            refine lv_icmp_ne (tgt := 160) hx hb dX0_provesGrowth_153 (by decide) (fun c_8 => ?_) (fun c_8 => ?_)
            · skip
              refine lv_iconst (v := nI 0) hx hb dX0_provesGrowth_160 (by decide) ?_
              refine th_zret hx hb hr hlk hQ hS dX0_provesGrowth_161 (Nat.le_of_ble_eq_true rfl) (Nat.le_of_ble_eq_true rfl) (by first | exact Or.inl rfl | exact Or.inr rfl | assumption) ?_
              have zj : j = (th_gR (0, m0, k0 - 1)) := by omega
              rw [zj] at hx9 ho9
              exact ⟨_, rfl, by rw [th_bF (fun z => c_8 (hx9.trans (z.2.1 cF).2))], ⟨_, _, _, _, fr, le, fi, hP⟩⟩
            refine lv_iconst (v := nI 1) hx hb dX0_provesGrowth_156 (by decide) ?_
            refine lv_goto (tgt := 161) hx hb dX0_provesGrowth_157 (by decide) ?_
            refine th_zret hx hb hr hlk hQ hS dX0_provesGrowth_161 (Nat.le_of_ble_eq_true rfl) (Nat.le_of_ble_eq_true rfl) (by first | exact Or.inl rfl | exact Or.inr rfl | assumption) ?_
            have zj : j = (th_gR (0, m0, k0 - 1)) := by omega
            rw [zj] at hx9 ho9
            exact ⟨_, rfl, by rw [th_bT ⟨c_1, fun _ => ⟨ho9.symm.trans c_7, hx9.symm.trans c_8⟩, fun z => absurd cF z⟩], ⟨_, _, _, _, fr, le, fi, hP⟩⟩
          refine lv_aload_n hx hb dX0_provesGrowth_75 rfl (lv_at hl 0 rfl) ?_
          refine lv_iload hx hb dX0_provesGrowth_76 (lv_at hl 8 rfl) ?_
          refine th_callV hx hb hml hown hts ⟨hK, hN⟩ hl hS (hP 0 _ rfl) rfl (rest := []) (c_X0_read l Y _ dk sm y cnt ds (hP.sub (ws' := [(dk, .inr (0, [.int (nI cnt), .ref sm, .ref y])), (sm, .inl (Y.2 0, 12, .inl ds))]) [0, 1] rfl) (0 + j) (by omega) (by omega)) ok_X0_read tw_2_229 dX0_provesGrowth_78 rfl rfl (Nat.le_of_ble_eq_true rfl) ⟨Nat.le_of_ble_eq_true rfl, Nat.le_of_ble_eq_true rfl⟩ ⟨Nat.le_of_ble_eq_true rfl, Nat.le_of_ble_eq_true rfl⟩ (fun _ h => h.elim) (th_kpi (fun locs hS => ?_))
          refine lv_istore (lv' := [(9, .int (ds (0 + j))), (0, .ref dk), (1, .int (nI k0)), (2, .int old), (3, .int (nI m0)), (4, .int root), (5, .int (nI 1)), (6, .int xo), (7, .int x), (8, .int (nI (0 + j)))]) hx hb dX0_provesGrowth_81 hl (by decide) rfl (fun ls hl => ?_)
          refine lv_aload_n hx hb dX0_provesGrowth_83 rfl (lv_at hl 1 rfl) ?_
          refine va_get (D := Y.1) (ci := 0) (v := .ref y) (C := RX0) (T := TX0) (N := 3) hx hb hts inX0 hown hK hP 0 rfl rfl 2 (by decide) (hts _ tw_1_66) (fun _ h9 => h9) rfl dX0_provesGrowth_84 ?_
          refine lv_iload hx hb dX0_provesGrowth_87 (lv_at hl 9 rfl) ?_
          refine th_callV hx hb hml hown hts ⟨hK, hN⟩ hl hS (hP 2 _ rfl) rfl (rest := []) (c_X4_isFirstAt l Y _ y a1 a2 a3 (th_gR (0, m0, k0 - 1)) ((th_wa (0, m0, k0 - 1) (th_dG (0, m0, k0 - 1))).1) ((th_wa (0, m0, k0 - 1) (th_dG (0, m0, k0 - 1))).2.1) ((th_wa (0, m0, k0 - 1) (th_dG (0, m0, k0 - 1))).2.2) fr le fi (hP.sub (ws' := [(y, .inr (4, [.int (nI (th_gR (0, m0, k0 - 1))), .ref a1, .ref a2, .ref a3, .int (nI ((th_wa (0, m0, k0 - 1) (th_dG (0, m0, k0 - 1))).1)), .int (nI ((th_wa (0, m0, k0 - 1) (th_dG (0, m0, k0 - 1))).2.1)), .int (nI ((th_wa (0, m0, k0 - 1) (th_dG (0, m0, k0 - 1))).2.2))])), (a1, .inl (Y.2 0, 12, .inl fr)), (a2, .inl (Y.2 0, 12, .inl le)), (a3, .inl (Y.2 1, 12, .inl fi))]) [2, 3, 4, 5] rfl) (0 + j) (by omega) (by omega) (by rw [(hw _ (by omega)).2.2]; exact th_gF01 (0, m0, k0 - 1) _)) ok_X4_isFirstAt tw_3_14 dX0_provesGrowth_89 rfl rfl (Nat.le_of_ble_eq_true rfl) ⟨Nat.le_of_ble_eq_true rfl, Nat.le_of_ble_eq_true rfl⟩ ⟨Nat.le_of_ble_eq_true rfl, Nat.le_of_ble_eq_true rfl⟩ (fun _ h => h.elim) (th_kpi (fun locs hS => ?_))
          refine th_ti (show _ = th_gF (0, m0, k0 - 1) ((th_gR (0, m0, k0 - 1)) - 1 - (0 + j)) from (hw _ (by omega)).2.2) ?_
          refine lv_istore (lv' := [(10, .int (th_gF (0, m0, k0 - 1) ((th_gR (0, m0, k0 - 1)) - 1 - (0 + j)))), (9, .int (ds (0 + j))), (0, .ref dk), (1, .int (nI k0)), (2, .int old), (3, .int (nI m0)), (4, .int root), (5, .int (nI 1)), (6, .int xo), (7, .int x), (8, .int (nI (0 + j)))]) hx hb dX0_provesGrowth_92 hl (by decide) rfl (fun ls hl => ?_)
          refine lv_iload hx hb dX0_provesGrowth_94 (lv_at hl 0 rfl) ?_
          refine lv_if_eq (tgt := 109) hx hb dX0_provesGrowth_96 (by decide) (fun c_9 => ?_) (fun c_9 => ?_)
          · skip
            refine lv_iload hx hb dX0_provesGrowth_109 (lv_at hl 8 rfl) ?_
            refine lv_istore (lv' := [(6, .int xo), (10, .int (th_gF (0, m0, k0 - 1) ((th_gR (0, m0, k0 - 1)) - 1 - (0 + j)))), (9, .int (ds (0 + j))), (0, .ref dk), (1, .int (nI k0)), (2, .int old), (3, .int (nI m0)), (4, .int root), (5, .int (nI 1)), (7, .int x), (8, .int (nI (0 + j)))]) hx hb dX0_provesGrowth_111 hl (by decide) rfl (fun ls hl => ?_)
            refine lv_iload hx hb dX0_provesGrowth_113 (lv_at hl 1 rfl) ?_
            refine lv_if_eq (tgt := 128) hx hb dX0_provesGrowth_115 (by decide) (fun c_10 => ?_) (fun c_10 => by exfalso; exact absurd c_9 c_10)
            refine lv_iload hx hb dX0_provesGrowth_128 (lv_at hl 9 rfl) ?_
            refine lv_iload hx hb dX0_provesGrowth_130 (lv_at hl 2 rfl) ?_
            refine th_callSN hx hb hml hown hts ⟨hK, hN⟩ hl hS (rest := []) (c_X5_mix l Y _ x (ds (0 + j))) ok_X5_mix (tn_3_18 hN) dX0_provesGrowth_132 rfl rfl (Nat.le_of_ble_eq_true rfl) ⟨Nat.le_of_ble_eq_true rfl, Nat.le_of_ble_eq_true rfl⟩ ⟨Nat.le_of_ble_eq_true rfl, Nat.le_of_ble_eq_true rfl⟩ (fun _ h => h.elim) (th_kpi (fun locs hS => ?_))
            refine lv_istore (lv' := [(7, .int (th_mx x (ds (0 + j)))), (6, .int xo), (10, .int (th_gF (0, m0, k0 - 1) ((th_gR (0, m0, k0 - 1)) - 1 - (0 + j)))), (9, .int (ds (0 + j))), (0, .ref dk), (1, .int (nI k0)), (2, .int old), (3, .int (nI m0)), (4, .int root), (5, .int (nI 1)), (8, .int (nI (0 + j)))]) hx hb dX0_provesGrowth_135 hl (by decide) rfl (fun ls hl => ?_)
            refine lv_iinc (v := nI (0 + (j + 1))) (lv' := [(8, .int (nI (0 + (j + 1)))), (7, .int (th_mx x (ds (0 + j)))), (6, .int xo), (10, .int (th_gF (0, m0, k0 - 1) ((th_gR (0, m0, k0 - 1)) - 1 - (0 + j)))), (9, .int (ds (0 + j))), (0, .ref dk), (1, .int (nI k0)), (2, .int old), (3, .int (nI m0)), (4, .int root), (5, .int (nI 1))]) hx hb dX0_provesGrowth_137 hl (k := 10) rfl ((nI_add _ 1).trans (congrArg nI (by omega))) (by decide) rfl (fun ls hl => ?_)
            refine lv_goto (tgt := 66) hx hb dX0_provesGrowth_140 (by decide) ?_
            exact ih (j + 1) (xo) (th_mx x (ds (0 + j))) _ _ (by omega) (by omega) ((th_fo_s ho9).1 c_9) ((th_fd_s hx9).1 c_9) hS (lv_sub hl [5, 6, 7, 8, 9, 10, 2, 1, 0] rfl)
          refine lv_iload hx hb dX0_provesGrowth_99 (lv_at hl 1 rfl) ?_
          refine lv_iload hx hb dX0_provesGrowth_101 (lv_at hl 8 rfl) ?_
          refine th_callSN hx hb hml hown hts ⟨hK, hN⟩ hl hS (rest := []) (c_X5_mix l Y _ (ds (0 + j)) xo) ok_X5_mix (tn_3_18 hN) dX0_provesGrowth_103 rfl rfl (Nat.le_of_ble_eq_true rfl) ⟨Nat.le_of_ble_eq_true rfl, Nat.le_of_ble_eq_true rfl⟩ ⟨Nat.le_of_ble_eq_true rfl, Nat.le_of_ble_eq_true rfl⟩ (fun _ h => h.elim) (th_kpi (fun locs hS => ?_))
          refine lv_goto (tgt := 111) hx hb dX0_provesGrowth_106 (by decide) ?_
          refine lv_istore (lv' := [(6, .int (th_mx (ds (0 + j)) xo)), (10, .int (th_gF (0, m0, k0 - 1) ((th_gR (0, m0, k0 - 1)) - 1 - (0 + j)))), (9, .int (ds (0 + j))), (0, .ref dk), (1, .int (nI k0)), (2, .int old), (3, .int (nI m0)), (4, .int root), (5, .int (nI 1)), (7, .int x), (8, .int (nI (0 + j)))]) hx hb dX0_provesGrowth_111 hl (by decide) rfl (fun ls hl => ?_)
          refine lv_iload hx hb dX0_provesGrowth_113 (lv_at hl 1 rfl) ?_
          refine lv_if_eq (tgt := 128) hx hb dX0_provesGrowth_115 (by decide) (fun c_11 => by exfalso; exact absurd c_11 c_9) (fun c_11 => ?_)
          refine lv_iload hx hb dX0_provesGrowth_118 (lv_at hl 2 rfl) ?_
          refine lv_iload hx hb dX0_provesGrowth_120 (lv_at hl 9 rfl) ?_
          refine th_callSN hx hb hml hown hts ⟨hK, hN⟩ hl hS (rest := []) (c_X5_mix l Y _ (ds (0 + j)) x) ok_X5_mix (tn_3_18 hN) dX0_provesGrowth_122 rfl rfl (Nat.le_of_ble_eq_true rfl) ⟨Nat.le_of_ble_eq_true rfl, Nat.le_of_ble_eq_true rfl⟩ ⟨Nat.le_of_ble_eq_true rfl, Nat.le_of_ble_eq_true rfl⟩ (fun _ h => h.elim) (th_kpi (fun locs hS => ?_))
          refine lv_goto (tgt := 135) hx hb dX0_provesGrowth_125 (by decide) ?_
          refine lv_istore (lv' := [(7, .int (th_mx (ds (0 + j)) x)), (6, .int (th_mx (ds (0 + j)) xo)), (10, .int (th_gF (0, m0, k0 - 1) ((th_gR (0, m0, k0 - 1)) - 1 - (0 + j)))), (9, .int (ds (0 + j))), (0, .ref dk), (1, .int (nI k0)), (2, .int old), (3, .int (nI m0)), (4, .int root), (5, .int (nI 1)), (8, .int (nI (0 + j)))]) hx hb dX0_provesGrowth_135 hl (by decide) rfl (fun ls hl => ?_)
          refine lv_iinc (v := nI (0 + (j + 1))) (lv' := [(8, .int (nI (0 + (j + 1)))), (7, .int (th_mx (ds (0 + j)) x)), (6, .int (th_mx (ds (0 + j)) xo)), (10, .int (th_gF (0, m0, k0 - 1) ((th_gR (0, m0, k0 - 1)) - 1 - (0 + j)))), (9, .int (ds (0 + j))), (0, .ref dk), (1, .int (nI k0)), (2, .int old), (3, .int (nI m0)), (4, .int root), (5, .int (nI 1))]) hx hb dX0_provesGrowth_137 hl (k := 10) rfl ((nI_add _ 1).trans (congrArg nI (by omega))) (by decide) rfl (fun ls hl => ?_)
          refine lv_goto (tgt := 66) hx hb dX0_provesGrowth_140 (by decide) ?_
          exact ih (j + 1) (th_mx (ds (0 + j)) xo) (th_mx (ds (0 + j)) x) _ _ (by omega) (by omega) ((th_fo_s ho9).2 c_9) ((th_fd_s hx9).2 c_9) hS (lv_sub hl [5, 6, 7, 8, 9, 10, 2, 1, 0] rfl)
      exact lp_4 ((cnt - (0)) + 1) (0) (old) (old) _ _ (Nat.lt_succ_self _) (by omega) (rfl) (rfl) hS (lv_sub hl [4, 5, 6, 7, 8, 3, 2, 1, 0] rfl)
    rw [if_neg cF]
    refine lv_istore (lv' := [(5, .int (nI 0)), (0, .ref dk), (1, .int (nI k0)), (2, .int old), (3, .int (nI m0)), (4, .int root)]) hx hb dX0_provesGrowth_32 hl (by decide) rfl (fun ls hl => ?_)
    refine lv_iload hx hb dX0_provesGrowth_34 (lv_at hl 0 rfl) ?_
    refine th_zeq (tgt := 43) hx hb dX0_provesGrowth_36 (by decide) (by omega) (fun c_12 => ?_) (fun c_12 => by exfalso; omega)
    refine lv_aload_n hx hb dX0_provesGrowth_43 rfl (lv_at hl 1 rfl) ?_
    have zR1 : 1 ≤ (th_gR (0, m0, k0 - 1)) := Nat.pos_of_ne_zero (fun z => cF (zR z))
    refine lv_iconst (v := nI 0) hx hb dX0_provesGrowth_44 (by decide) ?_
    refine th_callV hx hb hml hown hts ⟨hK, hN⟩ hl hS (hP 0 _ rfl) rfl (rest := []) (c_X0_read l Y _ dk sm y cnt ds (hP.sub (ws' := [(dk, .inr (0, [.int (nI cnt), .ref sm, .ref y])), (sm, .inl (Y.2 0, 12, .inl ds))]) [0, 1] rfl) 0 (by omega) (by omega)) ok_X0_read tw_2_229 dX0_provesGrowth_45 rfl rfl (Nat.le_of_ble_eq_true rfl) ⟨Nat.le_of_ble_eq_true rfl, Nat.le_of_ble_eq_true rfl⟩ ⟨Nat.le_of_ble_eq_true rfl, Nat.le_of_ble_eq_true rfl⟩ (fun _ h => h.elim) (th_kpi (fun locs hS => ?_))
    refine lv_istore (lv' := [(6, .int (ds 0)), (5, .int (nI 0)), (0, .ref dk), (1, .int (nI k0)), (2, .int old), (3, .int (nI m0)), (4, .int root)]) hx hb dX0_provesGrowth_48 hl (by decide) rfl (fun ls hl => ?_)
    refine lv_iload hx hb dX0_provesGrowth_50 (lv_at hl 0 rfl) ?_
    refine lv_istore (lv' := [(7, .int (ds 0)), (6, .int (ds 0)), (5, .int (nI 0)), (0, .ref dk), (1, .int (nI k0)), (2, .int old), (3, .int (nI m0)), (4, .int root)]) hx hb dX0_provesGrowth_52 hl (by decide) rfl (fun ls hl => ?_)
    refine lv_iload hx hb dX0_provesGrowth_54 (lv_at hl 2 rfl) ?_
    refine th_zeq (tgt := 63) hx hb dX0_provesGrowth_56 (by decide) (by omega) (fun c_13 => ?_) (fun c_13 => by exfalso; omega)
    refine lv_iconst (v := nI 1) hx hb dX0_provesGrowth_63 (by decide) ?_
    refine lv_istore (lv' := [(8, .int (nI 1)), (7, .int (ds 0)), (6, .int (ds 0)), (5, .int (nI 0)), (0, .ref dk), (1, .int (nI k0)), (2, .int old), (3, .int (nI m0)), (4, .int root)]) hx hb dX0_provesGrowth_64 hl (by decide) rfl (fun ls hl => ?_)
    have lp_14 : ∀ (n_15 : Nat) (j : Nat) (xo : Int32) (x : Int32) (locs : List Loc) (ls : Array Slot), cnt - j < n_15 → (1 + j ≤ cnt) → (xo = th_fo (th_gR (0, m0, k0 - 1)) (th_gF (0, m0, k0 - 1)) ds 1 (ds 0) j) → (x = th_fd (th_gR (0, m0, k0 - 1)) (th_gF (0, m0, k0 - 1)) ds 1 (ds 0) j) → va_S (fun z => z ∈ [dk, sm, y, a1, a2, a3]) H0 H locs → lv_has ls 11 [(0, .ref dk), (1, .int (nI k0)), (2, .int old), (3, .int (nI m0)), (4, .int root), (5, .int (nI 0)), (6, .int xo), (7, .int x), (8, .int (nI (1 + j)))] → W p l e (th_rm 4 0 0) s m args below meth c H locs 0 0 Q (F0 m 66 ls []) := by
      intro n_15; induction n_15 with
      | zero => intros; exfalso; omega
      | succ n_15 ih =>
        intro j xo x locs ls hmz hj ho9 hx9 hS hl
        refine lv_iload hx hb dX0_provesGrowth_66 (lv_at hl 8 rfl) ?_
        refine lv_aload_n hx hb dX0_provesGrowth_68 rfl (lv_at hl 0 rfl) ?_
        refine va_get (D := Y.1) (ci := 0) (v := .int (nI cnt)) (C := RX0) (T := TX0) (N := 3) hx hb hts inX0 hown hK hP 0 rfl rfl 0 (by decide) (hts _ tw_1_63) (fun _ h9 => h9) rfl dX0_provesGrowth_69 ?_
        refine th_ige (tgt := 143) hx hb dX0_provesGrowth_72 (by decide) (by omega) (by omega) (fun c_16 => ?_) (fun c_16 => ?_)
        · skip
          refine lv_iload hx hb dX0_provesGrowth_143 (lv_at hl 6 rfl) ?_
          refine lv_iload_n hx hb dX0_provesGrowth_145 rfl (lv_at hl 2 rfl) ?_
          refine lv_icmp_ne (tgt := 160) hx hb dX0_provesGrowth_146 (by decide) (fun c_17 => ?_) (fun c_17 => ?_)
          · skip
            refine lv_iconst (v := nI 0) hx hb dX0_provesGrowth_160 (by decide) ?_
            refine th_zret hx hb hr hlk hQ hS dX0_provesGrowth_161 (Nat.le_of_ble_eq_true rfl) (Nat.le_of_ble_eq_true rfl) (by first | exact Or.inl rfl | exact Or.inr rfl | assumption) ?_
            have zj : j = (th_gR (0, m0, k0 - 1)) - 1 := by omega
            rw [zj] at hx9 ho9
            exact ⟨_, rfl, by rw [th_bF (fun z => c_17 (ho9.trans (z.2.2 cF).1))], ⟨_, _, _, _, fr, le, fi, hP⟩⟩
          refine lv_iload hx hb dX0_provesGrowth_149 (lv_at hl 7 rfl) ?_
          refine lv_iload hx hb dX0_provesGrowth_151 (lv_at hl 4 rfl) ?_
          refine lv_icmp_ne (tgt := 160) hx hb dX0_provesGrowth_153 (by decide) (fun c_18 => ?_) (fun c_18 => ?_)
          · skip
            refine lv_iconst (v := nI 0) hx hb dX0_provesGrowth_160 (by decide) ?_
            refine th_zret hx hb hr hlk hQ hS dX0_provesGrowth_161 (Nat.le_of_ble_eq_true rfl) (Nat.le_of_ble_eq_true rfl) (by first | exact Or.inl rfl | exact Or.inr rfl | assumption) ?_
            have zj : j = (th_gR (0, m0, k0 - 1)) - 1 := by omega
            rw [zj] at hx9 ho9
            exact ⟨_, rfl, by rw [th_bF (fun z => c_18 (hx9.trans (z.2.2 cF).2))], ⟨_, _, _, _, fr, le, fi, hP⟩⟩
          refine lv_iconst (v := nI 1) hx hb dX0_provesGrowth_156 (by decide) ?_
          refine lv_goto (tgt := 161) hx hb dX0_provesGrowth_157 (by decide) ?_
          refine th_zret hx hb hr hlk hQ hS dX0_provesGrowth_161 (Nat.le_of_ble_eq_true rfl) (Nat.le_of_ble_eq_true rfl) (by first | exact Or.inl rfl | exact Or.inr rfl | assumption) ?_
          have zj : j = (th_gR (0, m0, k0 - 1)) - 1 := by omega
          rw [zj] at hx9 ho9
          exact ⟨_, rfl, by rw [th_bT ⟨c_1, fun z => absurd z cF, fun _ => ⟨ho9.symm.trans c_17, hx9.symm.trans c_18⟩⟩], ⟨_, _, _, _, fr, le, fi, hP⟩⟩
        refine lv_aload_n hx hb dX0_provesGrowth_75 rfl (lv_at hl 0 rfl) ?_
        refine lv_iload hx hb dX0_provesGrowth_76 (lv_at hl 8 rfl) ?_
        refine th_callV hx hb hml hown hts ⟨hK, hN⟩ hl hS (hP 0 _ rfl) rfl (rest := []) (c_X0_read l Y _ dk sm y cnt ds (hP.sub (ws' := [(dk, .inr (0, [.int (nI cnt), .ref sm, .ref y])), (sm, .inl (Y.2 0, 12, .inl ds))]) [0, 1] rfl) (1 + j) (by omega) (by omega)) ok_X0_read tw_2_229 dX0_provesGrowth_78 rfl rfl (Nat.le_of_ble_eq_true rfl) ⟨Nat.le_of_ble_eq_true rfl, Nat.le_of_ble_eq_true rfl⟩ ⟨Nat.le_of_ble_eq_true rfl, Nat.le_of_ble_eq_true rfl⟩ (fun _ h => h.elim) (th_kpi (fun locs hS => ?_))
        refine lv_istore (lv' := [(9, .int (ds (1 + j))), (0, .ref dk), (1, .int (nI k0)), (2, .int old), (3, .int (nI m0)), (4, .int root), (5, .int (nI 0)), (6, .int xo), (7, .int x), (8, .int (nI (1 + j)))]) hx hb dX0_provesGrowth_81 hl (by decide) rfl (fun ls hl => ?_)
        refine lv_aload_n hx hb dX0_provesGrowth_83 rfl (lv_at hl 1 rfl) ?_
        refine va_get (D := Y.1) (ci := 0) (v := .ref y) (C := RX0) (T := TX0) (N := 3) hx hb hts inX0 hown hK hP 0 rfl rfl 2 (by decide) (hts _ tw_1_66) (fun _ h9 => h9) rfl dX0_provesGrowth_84 ?_
        refine lv_iload hx hb dX0_provesGrowth_87 (lv_at hl 9 rfl) ?_
        refine th_callV hx hb hml hown hts ⟨hK, hN⟩ hl hS (hP 2 _ rfl) rfl (rest := []) (c_X4_isFirstAt l Y _ y a1 a2 a3 (th_gR (0, m0, k0 - 1)) ((th_wa (0, m0, k0 - 1) (th_dG (0, m0, k0 - 1))).1) ((th_wa (0, m0, k0 - 1) (th_dG (0, m0, k0 - 1))).2.1) ((th_wa (0, m0, k0 - 1) (th_dG (0, m0, k0 - 1))).2.2) fr le fi (hP.sub (ws' := [(y, .inr (4, [.int (nI (th_gR (0, m0, k0 - 1))), .ref a1, .ref a2, .ref a3, .int (nI ((th_wa (0, m0, k0 - 1) (th_dG (0, m0, k0 - 1))).1)), .int (nI ((th_wa (0, m0, k0 - 1) (th_dG (0, m0, k0 - 1))).2.1)), .int (nI ((th_wa (0, m0, k0 - 1) (th_dG (0, m0, k0 - 1))).2.2))])), (a1, .inl (Y.2 0, 12, .inl fr)), (a2, .inl (Y.2 0, 12, .inl le)), (a3, .inl (Y.2 1, 12, .inl fi))]) [2, 3, 4, 5] rfl) (1 + j) (by omega) (by omega) (by rw [(hw _ (by omega)).2.2]; exact th_gF01 (0, m0, k0 - 1) _)) ok_X4_isFirstAt tw_3_14 dX0_provesGrowth_89 rfl rfl (Nat.le_of_ble_eq_true rfl) ⟨Nat.le_of_ble_eq_true rfl, Nat.le_of_ble_eq_true rfl⟩ ⟨Nat.le_of_ble_eq_true rfl, Nat.le_of_ble_eq_true rfl⟩ (fun _ h => h.elim) (th_kpi (fun locs hS => ?_))
        refine th_ti (show _ = th_gF (0, m0, k0 - 1) ((th_gR (0, m0, k0 - 1)) - 1 - (1 + j)) from (hw _ (by omega)).2.2) ?_
        refine lv_istore (lv' := [(10, .int (th_gF (0, m0, k0 - 1) ((th_gR (0, m0, k0 - 1)) - 1 - (1 + j)))), (9, .int (ds (1 + j))), (0, .ref dk), (1, .int (nI k0)), (2, .int old), (3, .int (nI m0)), (4, .int root), (5, .int (nI 0)), (6, .int xo), (7, .int x), (8, .int (nI (1 + j)))]) hx hb dX0_provesGrowth_92 hl (by decide) rfl (fun ls hl => ?_)
        refine lv_iload hx hb dX0_provesGrowth_94 (lv_at hl 0 rfl) ?_
        refine lv_if_eq (tgt := 109) hx hb dX0_provesGrowth_96 (by decide) (fun c_19 => ?_) (fun c_19 => ?_)
        · skip
          refine lv_iload hx hb dX0_provesGrowth_109 (lv_at hl 8 rfl) ?_
          refine lv_istore (lv' := [(6, .int xo), (10, .int (th_gF (0, m0, k0 - 1) ((th_gR (0, m0, k0 - 1)) - 1 - (1 + j)))), (9, .int (ds (1 + j))), (0, .ref dk), (1, .int (nI k0)), (2, .int old), (3, .int (nI m0)), (4, .int root), (5, .int (nI 0)), (7, .int x), (8, .int (nI (1 + j)))]) hx hb dX0_provesGrowth_111 hl (by decide) rfl (fun ls hl => ?_)
          refine lv_iload hx hb dX0_provesGrowth_113 (lv_at hl 1 rfl) ?_
          refine lv_if_eq (tgt := 128) hx hb dX0_provesGrowth_115 (by decide) (fun c_20 => ?_) (fun c_20 => by exfalso; exact absurd c_19 c_20)
          refine lv_iload hx hb dX0_provesGrowth_128 (lv_at hl 9 rfl) ?_
          refine lv_iload hx hb dX0_provesGrowth_130 (lv_at hl 2 rfl) ?_
          refine th_callSN hx hb hml hown hts ⟨hK, hN⟩ hl hS (rest := []) (c_X5_mix l Y _ x (ds (1 + j))) ok_X5_mix (tn_3_18 hN) dX0_provesGrowth_132 rfl rfl (Nat.le_of_ble_eq_true rfl) ⟨Nat.le_of_ble_eq_true rfl, Nat.le_of_ble_eq_true rfl⟩ ⟨Nat.le_of_ble_eq_true rfl, Nat.le_of_ble_eq_true rfl⟩ (fun _ h => h.elim) (th_kpi (fun locs hS => ?_))
          refine lv_istore (lv' := [(7, .int (th_mx x (ds (1 + j)))), (6, .int xo), (10, .int (th_gF (0, m0, k0 - 1) ((th_gR (0, m0, k0 - 1)) - 1 - (1 + j)))), (9, .int (ds (1 + j))), (0, .ref dk), (1, .int (nI k0)), (2, .int old), (3, .int (nI m0)), (4, .int root), (5, .int (nI 0)), (8, .int (nI (1 + j)))]) hx hb dX0_provesGrowth_135 hl (by decide) rfl (fun ls hl => ?_)
          refine lv_iinc (v := nI (1 + (j + 1))) (lv' := [(8, .int (nI (1 + (j + 1)))), (7, .int (th_mx x (ds (1 + j)))), (6, .int xo), (10, .int (th_gF (0, m0, k0 - 1) ((th_gR (0, m0, k0 - 1)) - 1 - (1 + j)))), (9, .int (ds (1 + j))), (0, .ref dk), (1, .int (nI k0)), (2, .int old), (3, .int (nI m0)), (4, .int root), (5, .int (nI 0))]) hx hb dX0_provesGrowth_137 hl (k := 10) rfl ((nI_add _ 1).trans (congrArg nI (by omega))) (by decide) rfl (fun ls hl => ?_)
          refine lv_goto (tgt := 66) hx hb dX0_provesGrowth_140 (by decide) ?_
          exact ih (j + 1) (xo) (th_mx x (ds (1 + j))) _ _ (by omega) (by omega) ((th_fo_s ho9).1 c_19) ((th_fd_s hx9).1 c_19) hS (lv_sub hl [5, 6, 7, 8, 9, 10, 2, 1, 0] rfl)
        refine lv_iload hx hb dX0_provesGrowth_99 (lv_at hl 1 rfl) ?_
        refine lv_iload hx hb dX0_provesGrowth_101 (lv_at hl 8 rfl) ?_
        refine th_callSN hx hb hml hown hts ⟨hK, hN⟩ hl hS (rest := []) (c_X5_mix l Y _ (ds (1 + j)) xo) ok_X5_mix (tn_3_18 hN) dX0_provesGrowth_103 rfl rfl (Nat.le_of_ble_eq_true rfl) ⟨Nat.le_of_ble_eq_true rfl, Nat.le_of_ble_eq_true rfl⟩ ⟨Nat.le_of_ble_eq_true rfl, Nat.le_of_ble_eq_true rfl⟩ (fun _ h => h.elim) (th_kpi (fun locs hS => ?_))
        refine lv_goto (tgt := 111) hx hb dX0_provesGrowth_106 (by decide) ?_
        refine lv_istore (lv' := [(6, .int (th_mx (ds (1 + j)) xo)), (10, .int (th_gF (0, m0, k0 - 1) ((th_gR (0, m0, k0 - 1)) - 1 - (1 + j)))), (9, .int (ds (1 + j))), (0, .ref dk), (1, .int (nI k0)), (2, .int old), (3, .int (nI m0)), (4, .int root), (5, .int (nI 0)), (7, .int x), (8, .int (nI (1 + j)))]) hx hb dX0_provesGrowth_111 hl (by decide) rfl (fun ls hl => ?_)
        refine lv_iload hx hb dX0_provesGrowth_113 (lv_at hl 1 rfl) ?_
        refine lv_if_eq (tgt := 128) hx hb dX0_provesGrowth_115 (by decide) (fun c_21 => by exfalso; exact absurd c_21 c_19) (fun c_21 => ?_)
        refine lv_iload hx hb dX0_provesGrowth_118 (lv_at hl 2 rfl) ?_
        refine lv_iload hx hb dX0_provesGrowth_120 (lv_at hl 9 rfl) ?_
        refine th_callSN hx hb hml hown hts ⟨hK, hN⟩ hl hS (rest := []) (c_X5_mix l Y _ (ds (1 + j)) x) ok_X5_mix (tn_3_18 hN) dX0_provesGrowth_122 rfl rfl (Nat.le_of_ble_eq_true rfl) ⟨Nat.le_of_ble_eq_true rfl, Nat.le_of_ble_eq_true rfl⟩ ⟨Nat.le_of_ble_eq_true rfl, Nat.le_of_ble_eq_true rfl⟩ (fun _ h => h.elim) (th_kpi (fun locs hS => ?_))
        refine lv_goto (tgt := 135) hx hb dX0_provesGrowth_125 (by decide) ?_
        refine lv_istore (lv' := [(7, .int (th_mx (ds (1 + j)) x)), (6, .int (th_mx (ds (1 + j)) xo)), (10, .int (th_gF (0, m0, k0 - 1) ((th_gR (0, m0, k0 - 1)) - 1 - (1 + j)))), (9, .int (ds (1 + j))), (0, .ref dk), (1, .int (nI k0)), (2, .int old), (3, .int (nI m0)), (4, .int root), (5, .int (nI 0)), (8, .int (nI (1 + j)))]) hx hb dX0_provesGrowth_135 hl (by decide) rfl (fun ls hl => ?_)
        refine lv_iinc (v := nI (1 + (j + 1))) (lv' := [(8, .int (nI (1 + (j + 1)))), (7, .int (th_mx (ds (1 + j)) x)), (6, .int (th_mx (ds (1 + j)) xo)), (10, .int (th_gF (0, m0, k0 - 1) ((th_gR (0, m0, k0 - 1)) - 1 - (1 + j)))), (9, .int (ds (1 + j))), (0, .ref dk), (1, .int (nI k0)), (2, .int old), (3, .int (nI m0)), (4, .int root), (5, .int (nI 0))]) hx hb dX0_provesGrowth_137 hl (k := 10) rfl ((nI_add _ 1).trans (congrArg nI (by omega))) (by decide) rfl (fun ls hl => ?_)
        refine lv_goto (tgt := 66) hx hb dX0_provesGrowth_140 (by decide) ?_
        exact ih (j + 1) (th_mx (ds (1 + j)) xo) (th_mx (ds (1 + j)) x) _ _ (by omega) (by omega) ((th_fo_s ho9).2 c_19) ((th_fd_s hx9).2 c_19) hS (lv_sub hl [5, 6, 7, 8, 9, 10, 2, 1, 0] rfl)
    exact lp_14 ((cnt - (0)) + 1) (0) (ds 0) (ds 0) _ _ (Nat.lt_succ_self _) (by omega) (rfl) (rfl) hS (lv_sub hl [4, 5, 6, 7, 8, 3, 2, 1, 0] rfl)
  refine lv_iconst (v := nI 0) hx hb dX0_provesGrowth_23 (by decide) ?_
  refine th_zret hx hb hr hlk hQ hS dX0_provesGrowth_24 (Nat.le_of_ble_eq_true rfl) (Nat.le_of_ble_eq_true rfl) (by first | exact Or.inl rfl | exact Or.inr rfl | assumption) ?_
  exact ⟨_, rfl, by rw [th_bF (fun z => c_1 z.1)], ⟨_, _, _, _, fr, le, fi, hP⟩⟩

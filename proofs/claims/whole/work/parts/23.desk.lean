set_option maxRecDepth 100000 in
set_option maxHeartbeats 4000000 in
theorem c_X0_read (l : Launch) (Y : th_Y) (H : Heap) (dk sm y cnt : Nat) (ds : Nat → Int32) (hP : va_P Y.1 vwCl [(dk, .inr (0, [.int (nI cnt), .ref sm, .ref y])), (sm, .inl (Y.2 0, 12, .inl ds))] H) (q : Nat) (hq : q < cnt) (hc : cnt ≤ 12) : th_P l Y yX0_read cX0_read 2 (some .int) (th_rm 0 0 0) [.ref dk, .int (nI q)] H (fun r9 => r9 = some (.int (ds q))) := by
  refine th_M.intro (by decide) (Nat.le_of_ble_eq_true rfl) ?_
  intro p e s m args below meth c ls Q hQ C hKN hl hS
  obtain ⟨hx, hb, hr, hml, hown, hts, hlk, hnm⟩ := C
  obtain ⟨hK, hN⟩ := hKN
  have hown : s.vm.findClass RX0 = some m.cls := hown
  have hl : lv_has ls 2 [(0, .ref dk), (1, .int (nI q))] := hl
  refine lv_iload_n hx hb dX0_read_0 rfl (lv_at hl 1 rfl) ?_
  refine th_zlt (tgt := 30) hx hb dX0_read_1 (by decide) (by omega) ?_
  refine lv_iload_n hx hb dX0_read_4 rfl (lv_at hl 1 rfl) ?_
  refine lv_aload_n hx hb dX0_read_5 rfl (lv_at hl 0 rfl) ?_
  refine va_get (D := Y.1) (ci := 0) (v := .int (nI cnt)) (C := RX0) (T := TX0) (N := 3) hx hb hts inX0 hown hK hP 0 rfl rfl 0 (by decide) (hts _ tw_1_63) (fun _ h9 => h9) rfl dX0_read_6 ?_
  refine th_ige (tgt := 30) hx hb dX0_read_9 (by decide) (by omega) (by omega) (fun c_1 => by exfalso; omega) (fun c_1 => ?_)
  refine lv_iload_n hx hb dX0_read_12 rfl (lv_at hl 1 rfl) ?_
  refine lv_aload_n hx hb dX0_read_13 rfl (lv_at hl 0 rfl) ?_
  refine va_get (D := Y.1) (ci := 0) (v := .ref sm) (C := RX0) (T := TX0) (N := 3) hx hb hts inX0 hown hK hP 0 rfl rfl 1 (by decide) (hts _ tw_1_65) (fun _ h9 => h9) rfl dX0_read_14 ?_
  refine va_alen (v := nI 12) hx hb hK hP 1 0 rfl rfl rfl dX0_read_17 ?_
  refine th_ige (tgt := 30) hx hb dX0_read_18 (by decide) (by omega) (by omega) (fun c_2 => by exfalso; omega) (fun c_2 => ?_)
  refine lv_aload_n hx hb dX0_read_21 rfl (lv_at hl 0 rfl) ?_
  refine va_get (D := Y.1) (ci := 0) (v := .ref sm) (C := RX0) (T := TX0) (N := 3) hx hb hts inX0 hown hK hP 0 rfl rfl 1 (by decide) (hts _ tw_1_65) (fun _ h9 => h9) rfl dX0_read_22 ?_
  refine lv_iload_n hx hb dX0_read_25 rfl (lv_at hl 1 rfl) ?_
  refine th_iald hx hb hK hP 1 rfl (j := q) (by omega) (by omega) dX0_read_26 ?_
  refine lv_goto (tgt := 31) hx hb dX0_read_27 (by decide) ?_
  refine th_iret hx hb hr hlk hQ hS dX0_read_31 (Nat.le_of_ble_eq_true rfl) (Nat.le_of_ble_eq_true rfl) ?_
  exact ⟨rfl, rfl⟩

set_option maxRecDepth 100000 in
set_option maxHeartbeats 4000000 in
theorem c_X0_write (l : Launch) (Y : th_Y) (H0 : Heap) (dk sm y cnt : Nat) (ds : Nat → Int32) (hP : va_P Y.1 vwCl [(dk, .inr (0, [.int (nI cnt), .ref sm, .ref y])), (sm, .inl (Y.2 0, 12, .inl ds))] H0) (hD0 : va_D (fun _ => True) [(dk, .inr (0, [.int (nI cnt), .ref sm, .ref y])), (sm, .inl (Y.2 0, 12, .inl ds))]) (q : Nat) (x : Int32) (hq : q ≤ cnt) (h12 : q < 12) (hc : cnt ≤ 12) : th_M l Y yX0_write cX0_write 3 none (th_rm 0 0 0) [.ref dk, .int (nI q), .int x] H0 (fun z => z ∈ [dk, sm]) (fun r' H' => r' = none ∧ va_P Y.1 vwCl [(dk, .inr (0, [.int (nI (if q = cnt then cnt + 1 else cnt)), .ref sm, .ref y])), (sm, .inl (Y.2 0, 12, .inl (upd ds q x)))] H') := by
  refine th_M.intro (by decide) (Nat.le_of_ble_eq_true rfl) ?_
  intro p e s m args below meth c ls Q hQ C hKN hl hS
  obtain ⟨hx, hb, hr, hml, hown, hts, hlk, hnm⟩ := C
  obtain ⟨hK, hN⟩ := hKN
  have hown : s.vm.findClass RX0 = some m.cls := hown
  have hl : lv_has ls 3 [(0, .ref dk), (1, .int (nI q)), (2, .int x)] := hl
  have hD : va_D (fun z => z ∈ [dk, sm]) [(dk, .inr (0, [.int (nI cnt), .ref sm, .ref y])), (sm, .inl (Y.2 0, 12, .inl ds))] := th_mem hD0
  refine lv_iload_n hx hb dX0_write_0 rfl (lv_at hl 1 rfl) ?_
  refine th_zlt (tgt := 21) hx hb dX0_write_1 (by decide) (by omega) ?_
  refine lv_iload_n hx hb dX0_write_4 rfl (lv_at hl 1 rfl) ?_
  refine lv_aload_n hx hb dX0_write_5 rfl (lv_at hl 0 rfl) ?_
  refine va_get (D := Y.1) (ci := 0) (v := .int (nI cnt)) (C := RX0) (T := TX0) (N := 3) hx hb hts inX0 hown hK hP 0 rfl rfl 0 (by decide) (hts _ tw_1_63) (fun _ h9 => h9) rfl dX0_write_6 ?_
  refine th_igt (tgt := 21) hx hb dX0_write_9 (by decide) (by omega) (by omega) (fun c_1 => by exfalso; omega) (fun c_1 => ?_)
  refine lv_iload_n hx hb dX0_write_12 rfl (lv_at hl 1 rfl) ?_
  refine lv_aload_n hx hb dX0_write_13 rfl (lv_at hl 0 rfl) ?_
  refine va_get (D := Y.1) (ci := 0) (v := .ref sm) (C := RX0) (T := TX0) (N := 3) hx hb hts inX0 hown hK hP 0 rfl rfl 1 (by decide) (hts _ tw_1_65) (fun _ h9 => h9) rfl dX0_write_14 ?_
  refine va_alen (v := nI 12) hx hb hK hP 1 0 rfl rfl rfl dX0_write_17 ?_
  refine th_ilt (tgt := 22) hx hb dX0_write_18 (by decide) (by omega) (by omega) (fun c_2 => ?_) (fun c_2 => by exfalso; omega)
  refine lv_aload_n hx hb dX0_write_22 rfl (lv_at hl 0 rfl) ?_
  refine va_get (D := Y.1) (ci := 0) (v := .ref sm) (C := RX0) (T := TX0) (N := 3) hx hb hts inX0 hown hK hP 0 rfl rfl 1 (by decide) (hts _ tw_1_65) (fun _ h9 => h9) rfl dX0_write_23 ?_
  refine lv_iload_n hx hb dX0_write_26 rfl (lv_at hl 1 rfl) ?_
  refine lv_iload_n hx hb dX0_write_27 rfl (lv_at hl 2 rfl) ?_
  refine th_iast hx hb hK hP hD hS 1 rfl (j := q) (by omega) (by omega) dX0_write_28 (fun H locs hP hD hS => ?_)
  have hP : va_P Y.1 vwCl [(dk, .inr (0, [.int (nI cnt), .ref sm, .ref y])), (sm, .inl (Y.2 0, 12, .inl (upd ds q x)))] _ := hP
  have hD : va_D _ [(dk, .inr (0, [.int (nI cnt), .ref sm, .ref y])), (sm, .inl (Y.2 0, 12, .inl (upd ds q x)))] := hD
  refine lv_aload_n hx hb dX0_write_29 rfl (lv_at hl 0 rfl) ?_
  refine lv_iload_n hx hb dX0_write_30 rfl (lv_at hl 1 rfl) ?_
  refine lv_aload_n hx hb dX0_write_31 rfl (lv_at hl 0 rfl) ?_
  refine va_get (D := Y.1) (ci := 0) (v := .int (nI cnt)) (C := RX0) (T := TX0) (N := 3) hx hb hts inX0 hown hK hP 0 rfl rfl 0 (by decide) (hts _ tw_1_63) (fun _ h9 => h9) rfl dX0_write_32 ?_
  refine th_ine (tgt := 47) hx hb dX0_write_35 (by decide) (by omega) (by omega) (fun c_3 => ?_) (fun c_3 => ?_)
  · skip
    refine lv_aload_n hx hb dX0_write_47 rfl (lv_at hl 0 rfl) ?_
    refine va_get (D := Y.1) (ci := 0) (v := .int (nI cnt)) (C := RX0) (T := TX0) (N := 3) hx hb hts inX0 hown hK hP 0 rfl rfl 0 (by decide) (hts _ tw_1_63) (fun _ h9 => h9) rfl dX0_write_48 ?_
    refine va_put (D := Y.1) (ci := 0) (v := .int (nI cnt)) (ty := .int) (C := RX0) (T := TX0) (N := 3) hx hb hts inX0 tyX0 tyX0_ok nmX0 hown hK hP hD hS 0 rfl rfl 0 (by decide) (hts _ tw_1_63) (fun _ h9 => h9) rfl (by decide +kernel) rfl rfl (Nat.le_of_ble_eq_true rfl) dX0_write_51 (fun H locs hP hD hS => ?_)
    have hP : va_P Y.1 vwCl [(dk, .inr (0, [.int (nI cnt), .ref sm, .ref y])), (sm, .inl (Y.2 0, 12, .inl (upd ds q x)))] _ := hP
    have hD : va_D _ [(dk, .inr (0, [.int (nI cnt), .ref sm, .ref y])), (sm, .inl (Y.2 0, 12, .inl (upd ds q x)))] := hD
    refine th_vret hx hb hr hlk hQ hS dX0_write_54 (Nat.le_of_ble_eq_true rfl) (Nat.le_of_ble_eq_true rfl) ?_
    refine ⟨rfl, ?_⟩
    rw [if_neg c_3]
    exact hP
  refine lv_aload_n hx hb dX0_write_38 rfl (lv_at hl 0 rfl) ?_
  refine va_get (D := Y.1) (ci := 0) (v := .int (nI cnt)) (C := RX0) (T := TX0) (N := 3) hx hb hts inX0 hown hK hP 0 rfl rfl 0 (by decide) (hts _ tw_1_63) (fun _ h9 => h9) rfl dX0_write_39 ?_
  refine lv_iconst (v := nI 1) hx hb dX0_write_42 (by decide) ?_
  refine lv_iadd hx hb dX0_write_43 ?_
  refine th_ti (nI_add _ _) ?_
  refine lv_goto (tgt := 51) hx hb dX0_write_44 (by decide) ?_
  refine va_put (D := Y.1) (ci := 0) (v := .int (nI (cnt + 1))) (ty := .int) (C := RX0) (T := TX0) (N := 3) hx hb hts inX0 tyX0 tyX0_ok nmX0 hown hK hP hD hS 0 rfl rfl 0 (by decide) (hts _ tw_1_63) (fun _ h9 => h9) rfl (by decide +kernel) rfl rfl (Nat.le_of_ble_eq_true rfl) dX0_write_51 (fun H locs hP hD hS => ?_)
  have hP : va_P Y.1 vwCl [(dk, .inr (0, [.int (nI (cnt + 1)), .ref sm, .ref y])), (sm, .inl (Y.2 0, 12, .inl (upd ds q x)))] _ := hP
  have hD : va_D _ [(dk, .inr (0, [.int (nI (cnt + 1)), .ref sm, .ref y])), (sm, .inl (Y.2 0, 12, .inl (upd ds q x)))] := hD
  refine th_vret hx hb hr hlk hQ hS dX0_write_54 (Nat.le_of_ble_eq_true rfl) (Nat.le_of_ble_eq_true rfl) ?_
  refine ⟨rfl, ?_⟩
  rw [if_pos c_3]
  exact hP

set_option maxRecDepth 100000 in
set_option maxHeartbeats 4000000 in
theorem c_X0_dropLast (l : Launch) (Y : th_Y) (H0 : Heap) (dk sm y cnt : Nat) (ds : Nat → Int32) (hP : va_P Y.1 vwCl [(dk, .inr (0, [.int (nI cnt), .ref sm, .ref y])), (sm, .inl (Y.2 0, 12, .inl ds))] H0) (hD0 : va_D (fun _ => True) [(dk, .inr (0, [.int (nI cnt), .ref sm, .ref y])), (sm, .inl (Y.2 0, 12, .inl ds))]) (h1 : 1 ≤ cnt) (hc : cnt ≤ 12) : th_M l Y yX0_dropLast cX0_dropLast 2 (some .int) (th_rm 1 0 0) [.ref dk] H0 (fun z => z ∈ [dk, sm]) (fun r' H' => ∃ x : Int32, r' = some (.int x) ∧ x = ds (cnt - 1) ∧ va_P Y.1 vwCl [(dk, .inr (0, [.int (nI (cnt - 1)), .ref sm, .ref y])), (sm, .inl (Y.2 0, 12, .inl ds))] H') := by
  refine th_M.intro (by decide) (Nat.le_of_ble_eq_true rfl) ?_
  intro p e s m args below meth c ls Q hQ C hKN hl hS
  obtain ⟨hx, hb, hr, hml, hown, hts, hlk, hnm⟩ := C
  obtain ⟨hK, hN⟩ := hKN
  have hown : s.vm.findClass RX0 = some m.cls := hown
  have hl : lv_has ls 2 [(0, .ref dk)] := hl
  have hD : va_D (fun z => z ∈ [dk, sm]) [(dk, .inr (0, [.int (nI cnt), .ref sm, .ref y])), (sm, .inl (Y.2 0, 12, .inl ds))] := th_mem hD0
  refine lv_aload_n hx hb dX0_dropLast_0 rfl (lv_at hl 0 rfl) ?_
  refine lv_aload_n hx hb dX0_dropLast_1 rfl (lv_at hl 0 rfl) ?_
  refine va_get (D := Y.1) (ci := 0) (v := .int (nI cnt)) (C := RX0) (T := TX0) (N := 3) hx hb hts inX0 hown hK hP 0 rfl rfl 0 (by decide) (hts _ tw_1_63) (fun _ h9 => h9) rfl dX0_dropLast_2 ?_
  refine lv_iconst (v := nI 1) hx hb dX0_dropLast_5 (by decide) ?_
  refine lv_isub hx hb dX0_dropLast_6 ?_
  refine th_ti (pk_sub (by omega)) ?_
  refine th_callV hx hb hml hown hts ⟨hK, hN⟩ hl hS (hP 0 _ rfl) rfl (rest := []) (c_X0_read l Y _ dk sm y cnt ds hP (cnt - 1) (by omega) (by omega)) ok_X0_read tw_2_229 dX0_dropLast_7 rfl rfl (Nat.le_of_ble_eq_true rfl) ⟨Nat.le_of_ble_eq_true rfl, Nat.le_of_ble_eq_true rfl⟩ ⟨Nat.le_of_ble_eq_true rfl, Nat.le_of_ble_eq_true rfl⟩ (fun _ h => h.elim) (th_kpi (fun locs hS => ?_))
  refine lv_istore_n (lv' := [(1, .int (ds (cnt - 1))), (0, .ref dk)]) hx hb dX0_dropLast_10 rfl hl (by decide) rfl (fun ls hl => ?_)
  refine lv_aload_n hx hb dX0_dropLast_11 rfl (lv_at hl 1 rfl) ?_
  refine lv_aload_n hx hb dX0_dropLast_12 rfl (lv_at hl 1 rfl) ?_
  refine va_get (D := Y.1) (ci := 0) (v := .int (nI cnt)) (C := RX0) (T := TX0) (N := 3) hx hb hts inX0 hown hK hP 0 rfl rfl 0 (by decide) (hts _ tw_1_63) (fun _ h9 => h9) rfl dX0_dropLast_13 ?_
  refine th_zle (tgt := 28) hx hb dX0_dropLast_16 (by decide) (by omega) (fun c_1 => by exfalso; omega) (fun c_1 => ?_)
  refine lv_aload_n hx hb dX0_dropLast_19 rfl (lv_at hl 1 rfl) ?_
  refine va_get (D := Y.1) (ci := 0) (v := .int (nI cnt)) (C := RX0) (T := TX0) (N := 3) hx hb hts inX0 hown hK hP 0 rfl rfl 0 (by decide) (hts _ tw_1_63) (fun _ h9 => h9) rfl dX0_dropLast_20 ?_
  refine lv_iconst (v := nI 1) hx hb dX0_dropLast_23 (by decide) ?_
  refine lv_isub hx hb dX0_dropLast_24 ?_
  refine th_ti (pk_sub (by omega)) ?_
  refine lv_goto (tgt := 29) hx hb dX0_dropLast_25 (by decide) ?_
  refine va_put (D := Y.1) (ci := 0) (v := .int (nI (cnt - 1))) (ty := .int) (C := RX0) (T := TX0) (N := 3) hx hb hts inX0 tyX0 tyX0_ok nmX0 hown hK hP hD hS 0 rfl rfl 0 (by decide) (hts _ tw_1_63) (fun _ h9 => h9) rfl (by decide +kernel) rfl rfl (Nat.le_of_ble_eq_true rfl) dX0_dropLast_29 (fun H locs hP hD hS => ?_)
  have hP : va_P Y.1 vwCl [(dk, .inr (0, [.int (nI (cnt - 1)), .ref sm, .ref y])), (sm, .inl (Y.2 0, 12, .inl ds))] _ := hP
  have hD : va_D _ [(dk, .inr (0, [.int (nI (cnt - 1)), .ref sm, .ref y])), (sm, .inl (Y.2 0, 12, .inl ds))] := hD
  refine lv_iload_n hx hb dX0_dropLast_32 rfl (lv_at hl 0 rfl) ?_
  refine th_iret hx hb hr hlk hQ hS dX0_dropLast_33 (Nat.le_of_ble_eq_true rfl) (Nat.le_of_ble_eq_true rfl) ?_
  exact ⟨_, rfl, rfl, hP⟩

set_option maxRecDepth 100000 in
set_option maxHeartbeats 4000000 in
theorem c_X4_isFirstAt (l : Launch) (Y : th_Y) (H : Heap) (y a1 a2 a3 r F N T : Nat) (fr le fi : Nat → Int32) (hP : va_P Y.1 vwCl [(y, .inr (4, [.int (nI r), .ref a1, .ref a2, .ref a3, .int (nI F), .int (nI N), .int (nI T)])), (a1, .inl (Y.2 0, 12, .inl fr)), (a2, .inl (Y.2 0, 12, .inl le)), (a3, .inl (Y.2 1, 12, .inl fi))] H) (q : Nat) (hq : q < r) (hr12 : r ≤ 12) (h01 : fi (r - 1 - q) = 0 ∨ fi (r - 1 - q) = 1) : th_P l Y yX4_isFirstAt cX4_isFirstAt 3 (some .boolean) (th_rm 0 0 0) [.ref y, .int (nI q)] H (fun r9 => r9 = some (.int (fi (r - 1 - q)))) := by
  refine th_M.intro (by decide) (Nat.le_of_ble_eq_true rfl) ?_
  intro p e s m args below meth c ls Q hQ C hKN hl hS
  obtain ⟨hx, hb, hr, hml, hown, hts, hlk, hnm⟩ := C
  obtain ⟨hK, hN⟩ := hKN
  have hown : s.vm.findClass RX4 = some m.cls := hown
  have hl : lv_has ls 3 [(0, .ref y), (1, .int (nI q))] := hl
  refine lv_aload_n hx hb dX4_isFirstAt_0 rfl (lv_at hl 0 rfl) ?_
  refine va_get (D := Y.1) (ci := 4) (v := .int (nI r)) (C := RX4) (T := TX4) (N := 7) hx hb hts inX4 hown hK hP 0 rfl rfl 0 (by decide) (hts _ tw_1_39) (fun _ h9 => h9) rfl dX4_isFirstAt_1 ?_
  refine lv_iconst (v := nI 1) hx hb dX4_isFirstAt_4 (by decide) ?_
  refine lv_isub hx hb dX4_isFirstAt_5 ?_
  refine th_ti (pk_sub (by omega)) ?_
  refine lv_iload_n hx hb dX4_isFirstAt_6 rfl (lv_at hl 1 rfl) ?_
  refine lv_isub hx hb dX4_isFirstAt_7 ?_
  refine th_ti (pk_sub (by omega)) ?_
  refine lv_istore_n (lv' := [(2, .int (nI ((r - 1) - q))), (0, .ref y), (1, .int (nI q))]) hx hb dX4_isFirstAt_8 rfl hl (by decide) rfl (fun ls hl => ?_)
  refine lv_iload_n hx hb dX4_isFirstAt_9 rfl (lv_at hl 0 rfl) ?_
  refine th_zlt (tgt := 32) hx hb dX4_isFirstAt_10 (by decide) (by omega) ?_
  refine lv_iload_n hx hb dX4_isFirstAt_13 rfl (lv_at hl 0 rfl) ?_
  refine lv_bipush (v := nI 12) hx hb dX4_isFirstAt_14 (by decide) ?_
  refine th_ige (tgt := 32) hx hb dX4_isFirstAt_16 (by decide) (by omega) (by omega) (fun c_1 => by exfalso; omega) (fun c_1 => ?_)
  refine lv_aload_n hx hb dX4_isFirstAt_19 rfl (lv_at hl 1 rfl) ?_
  refine va_get (D := Y.1) (ci := 4) (v := .ref a3) (C := RX4) (T := TX4) (N := 7) hx hb hts inX4 hown hK hP 0 rfl rfl 3 (by decide) (hts _ tw_1_42) (fun _ h9 => h9) rfl dX4_isFirstAt_20 ?_
  refine lv_iload_n hx hb dX4_isFirstAt_23 rfl (lv_at hl 0 rfl) ?_
  refine th_zald hx hb hK hP 3 rfl (j := ((r - 1) - q)) (by omega) (by omega) dX4_isFirstAt_24 ?_
  refine lv_if_eq (tgt := 32) hx hb dX4_isFirstAt_25 (by decide) (fun c_2 => ?_) (fun c_2 => ?_)
  · skip
    refine lv_iconst (v := nI 0) hx hb dX4_isFirstAt_32 (by decide) ?_
    refine th_zret hx hb hr hlk hQ hS dX4_isFirstAt_33 (Nat.le_of_ble_eq_true rfl) (Nat.le_of_ble_eq_true rfl) (by first | exact Or.inl rfl | exact Or.inr rfl | assumption) ?_
    exact ⟨by rw [c_2] <;> rfl, rfl⟩
  refine lv_iconst (v := nI 1) hx hb dX4_isFirstAt_28 (by decide) ?_
  refine lv_goto (tgt := 33) hx hb dX4_isFirstAt_29 (by decide) ?_
  refine th_zret hx hb hr hlk hQ hS dX4_isFirstAt_33 (Nat.le_of_ble_eq_true rfl) (Nat.le_of_ble_eq_true rfl) (by first | exact Or.inl rfl | exact Or.inr rfl | assumption) ?_
  exact ⟨by rw [h01.resolve_left c_2] <;> rfl, rfl⟩

set_option maxRecDepth 100000 in
set_option maxHeartbeats 4000000 in
theorem c_X4_rootOfPlace (l : Launch) (Y : th_Y) (H : Heap) (y : Nat) (a1 a2 a3 r F N T : Nat) (fr le fi : Nat → Int32) (v a b n : Nat) (f g : Nat → Int32) (hP : va_P Y.1 vwCl [(y, .inr (4, [.int (nI r), .ref a1, .ref a2, .ref a3, .int (nI F), .int (nI N), .int (nI T)])), (a1, .inl (Y.2 0, 12, .inl fr)), (a2, .inl (Y.2 0, 12, .inl le)), (a3, .inl (Y.2 1, 12, .inl fi)), (v, .inr (2, [.int (nI n), .ref a, .ref b])), (a, .inl (Y.2 0, 100, .inl f)), (b, .inl (Y.2 0, 256, .inl g))] H) (B L9 : Nat → Nat) (Fi : Nat → Int32) (hw : th_RW fr le fi B L9 Fi r) (hok : ∀ i, i < r → th_al (B i) (L9 i) ∧ B i + L9 i ≤ n) (hr12 : r ≤ 12) (hn : n ≤ 100) (hB : th_BI f g n) (q : Nat) (hq : q < r) : th_P l Y yX4_rootOfPlace cX4_rootOfPlace 4 (some .int) (th_rm 2 0 0) [.ref y, .ref v, .int (nI q)] H (fun r9 => r9 = some (.int (th_pS f B L9 r q))) := by
  refine th_M.intro (by decide) (Nat.le_of_ble_eq_true rfl) ?_
  intro p e s m args below meth c ls Q hQ C hKN hl hS
  obtain ⟨hx, hb, hr, hml, hown, hts, hlk, hnm⟩ := C
  obtain ⟨hK, hN⟩ := hKN
  have hown : s.vm.findClass RX4 = some m.cls := hown
  have hl : lv_has ls 4 [(0, .ref y), (1, .ref v), (2, .int (nI q))] := hl
  refine lv_aload_n hx hb dX4_rootOfPlace_0 rfl (lv_at hl 0 rfl) ?_
  refine va_get (D := Y.1) (ci := 4) (v := .int (nI r)) (C := RX4) (T := TX4) (N := 7) hx hb hts inX4 hown hK hP 0 rfl rfl 0 (by decide) (hts _ tw_1_39) (fun _ h9 => h9) rfl dX4_rootOfPlace_1 ?_
  refine lv_iconst (v := nI 1) hx hb dX4_rootOfPlace_4 (by decide) ?_
  refine lv_isub hx hb dX4_rootOfPlace_5 ?_
  refine th_ti (pk_sub (by omega)) ?_
  refine lv_iload_n hx hb dX4_rootOfPlace_6 rfl (lv_at hl 2 rfl) ?_
  refine lv_isub hx hb dX4_rootOfPlace_7 ?_
  refine th_ti (pk_sub (by omega)) ?_
  refine lv_istore_n (lv' := [(3, .int (nI ((r - 1) - q))), (0, .ref y), (1, .ref v), (2, .int (nI q))]) hx hb dX4_rootOfPlace_8 rfl hl (by decide) rfl (fun ls hl => ?_)
  refine lv_iload_n hx hb dX4_rootOfPlace_9 rfl (lv_at hl 0 rfl) ?_
  refine th_zlt (tgt := 38) hx hb dX4_rootOfPlace_10 (by decide) (by omega) ?_
  refine lv_iload_n hx hb dX4_rootOfPlace_13 rfl (lv_at hl 0 rfl) ?_
  refine lv_bipush (v := nI 12) hx hb dX4_rootOfPlace_14 (by decide) ?_
  refine th_ige (tgt := 38) hx hb dX4_rootOfPlace_16 (by decide) (by omega) (by omega) (fun c_1 => by exfalso; omega) (fun c_1 => ?_)
  have hbz := (hok (r - 1 - q) (by omega)).2
  refine lv_aload_n hx hb dX4_rootOfPlace_19 rfl (lv_at hl 2 rfl) ?_
  refine lv_aload_n hx hb dX4_rootOfPlace_20 rfl (lv_at hl 1 rfl) ?_
  refine va_get (D := Y.1) (ci := 4) (v := .ref a1) (C := RX4) (T := TX4) (N := 7) hx hb hts inX4 hown hK hP 0 rfl rfl 1 (by decide) (hts _ tw_1_40) (fun _ h9 => h9) rfl dX4_rootOfPlace_21 ?_
  refine lv_iload_n hx hb dX4_rootOfPlace_24 rfl (lv_at hl 0 rfl) ?_
  refine th_iald hx hb hK hP 1 rfl (j := ((r - 1) - q)) (by omega) (by omega) dX4_rootOfPlace_25 ?_
  refine th_ti (show fr ((r - 1) - q) = nI (B (r - 1 - q)) from (hw _ (by omega)).1) ?_
  refine lv_aload_n hx hb dX4_rootOfPlace_26 rfl (lv_at hl 1 rfl) ?_
  refine va_get (D := Y.1) (ci := 4) (v := .ref a2) (C := RX4) (T := TX4) (N := 7) hx hb hts inX4 hown hK hP 0 rfl rfl 2 (by decide) (hts _ tw_1_41) (fun _ h9 => h9) rfl dX4_rootOfPlace_27 ?_
  refine lv_iload_n hx hb dX4_rootOfPlace_30 rfl (lv_at hl 0 rfl) ?_
  refine th_iald hx hb hK hP 2 rfl (j := ((r - 1) - q)) (by omega) (by omega) dX4_rootOfPlace_31 ?_
  refine th_ti (show le ((r - 1) - q) = nI (L9 (r - 1 - q)) from (hw _ (by omega)).2.1) ?_
  refine th_callV hx hb hml hown hts ⟨hK, hN⟩ hl hS (hP 4 _ rfl) rfl (rest := []) (c_X2_rootOfRow l Y _ v a b n f g (hP.sub (ws' := [(v, .inr (2, [.int (nI n), .ref a, .ref b])), (a, .inl (Y.2 0, 100, .inl f)), (b, .inl (Y.2 0, 256, .inl g))]) [4, 5, 6] rfl) (B (r - 1 - q)) (L9 (r - 1 - q)) (by omega) (hok _ (by omega)).2 hB (hok _ (by omega)).1) ok_X2_rootOfRow tw_2_168 dX4_rootOfPlace_32 rfl rfl (Nat.le_of_ble_eq_true rfl) ⟨Nat.le_of_ble_eq_true rfl, Nat.le_of_ble_eq_true rfl⟩ ⟨Nat.le_of_ble_eq_true rfl, Nat.le_of_ble_eq_true rfl⟩ (fun _ h => h.elim) (th_kpi (fun locs hS => ?_))
  refine lv_goto (tgt := 39) hx hb dX4_rootOfPlace_35 (by decide) ?_
  refine th_iret hx hb hr hlk hQ hS dX4_rootOfPlace_39 (Nat.le_of_ble_eq_true rfl) (Nat.le_of_ble_eq_true rfl) ?_
  exact ⟨rfl, rfl⟩

set_option maxRecDepth 100000 in
set_option maxHeartbeats 4000000 in
theorem c_X0_takeRoots (l : Launch) (Y : th_Y) (H0 : Heap) (dk sm y cnt : Nat) (ds : Nat → Int32) (a1 a2 a3 r F N T : Nat) (fr le fi : Nat → Int32) (v a b n : Nat) (f g : Nat → Int32) (hP : va_P Y.1 vwCl [(dk, .inr (0, [.int (nI cnt), .ref sm, .ref y])), (sm, .inl (Y.2 0, 12, .inl ds)), (y, .inr (4, [.int (nI r), .ref a1, .ref a2, .ref a3, .int (nI F), .int (nI N), .int (nI T)])), (a1, .inl (Y.2 0, 12, .inl fr)), (a2, .inl (Y.2 0, 12, .inl le)), (a3, .inl (Y.2 1, 12, .inl fi)), (v, .inr (2, [.int (nI n), .ref a, .ref b])), (a, .inl (Y.2 0, 100, .inl f)), (b, .inl (Y.2 0, 256, .inl g))] H0) (hD0 : va_D (fun _ => True) [(dk, .inr (0, [.int (nI cnt), .ref sm, .ref y])), (sm, .inl (Y.2 0, 12, .inl ds)), (y, .inr (4, [.int (nI r), .ref a1, .ref a2, .ref a3, .int (nI F), .int (nI N), .int (nI T)])), (a1, .inl (Y.2 0, 12, .inl fr)), (a2, .inl (Y.2 0, 12, .inl le)), (a3, .inl (Y.2 1, 12, .inl fi)), (v, .inr (2, [.int (nI n), .ref a, .ref b])), (a, .inl (Y.2 0, 100, .inl f)), (b, .inl (Y.2 0, 256, .inl g))]) (B L9 : Nat → Nat) (Fi : Nat → Int32) (hw : th_RW fr le fi B L9 Fi r) (hok : ∀ i, i < r → th_al (B i) (L9 i) ∧ B i + L9 i ≤ n) (hr12 : r ≤ 12) (hn : n ≤ 100) (hB : th_BI f g n) : th_M l Y yX0_takeRoots cX0_takeRoots 3 none (th_rm 3 0 0) [.ref dk, .ref v] H0 (fun z => z ∈ [dk, sm, y, a1, a2, a3, v, a, b]) (fun r' H' => r' = none ∧ ∃ ds', va_P Y.1 vwCl [(dk, .inr (0, [.int (nI r), .ref sm, .ref y])), (sm, .inl (Y.2 0, 12, .inl ds')), (y, .inr (4, [.int (nI r), .ref a1, .ref a2, .ref a3, .int (nI F), .int (nI N), .int (nI T)])), (a1, .inl (Y.2 0, 12, .inl fr)), (a2, .inl (Y.2 0, 12, .inl le)), (a3, .inl (Y.2 1, 12, .inl fi)), (v, .inr (2, [.int (nI n), .ref a, .ref b])), (a, .inl (Y.2 0, 100, .inl f)), (b, .inl (Y.2 0, 256, .inl g))] H' ∧ ∀ k, k < r → ds' k = th_pS f B L9 r k) := by
  refine th_M.intro (by decide) (Nat.le_of_ble_eq_true rfl) ?_
  intro p e s m args below meth c ls Q hQ C hKN hl hS
  obtain ⟨hx, hb, hr, hml, hown, hts, hlk, hnm⟩ := C
  obtain ⟨hK, hN⟩ := hKN
  have hown : s.vm.findClass RX0 = some m.cls := hown
  have hl : lv_has ls 3 [(0, .ref dk), (1, .ref v)] := hl
  have hD : va_D (fun z => z ∈ [dk, sm, y, a1, a2, a3, v, a, b]) [(dk, .inr (0, [.int (nI cnt), .ref sm, .ref y])), (sm, .inl (Y.2 0, 12, .inl ds)), (y, .inr (4, [.int (nI r), .ref a1, .ref a2, .ref a3, .int (nI F), .int (nI N), .int (nI T)])), (a1, .inl (Y.2 0, 12, .inl fr)), (a2, .inl (Y.2 0, 12, .inl le)), (a3, .inl (Y.2 1, 12, .inl fi)), (v, .inr (2, [.int (nI n), .ref a, .ref b])), (a, .inl (Y.2 0, 100, .inl f)), (b, .inl (Y.2 0, 256, .inl g))] := th_mem hD0
  refine lv_aload_n hx hb dX0_takeRoots_0 rfl (lv_at hl 0 rfl) ?_
  refine lv_aload_n hx hb dX0_takeRoots_1 rfl (lv_at hl 0 rfl) ?_
  refine va_get (D := Y.1) (ci := 0) (v := .ref y) (C := RX0) (T := TX0) (N := 3) hx hb hts inX0 hown hK hP 0 rfl rfl 2 (by decide) (hts _ tw_1_66) (fun _ h9 => h9) rfl dX0_takeRoots_2 ?_
  refine va_getN (D := Y.1) (ci := 4) (v := .int (nI r)) (C := RX4) (T := TX4) (N := 7) hx hb hts inX4 hown hK hP 2 rfl rfl 0 (by decide) (va_Nw.use rfl (tn_1_38 hN)) (fun _ h9 => h9) rfl dX0_takeRoots_5 ?_
  refine va_put (D := Y.1) (ci := 0) (v := .int (nI r)) (ty := .int) (C := RX0) (T := TX0) (N := 3) hx hb hts inX0 tyX0 tyX0_ok nmX0 hown hK hP hD hS 0 rfl rfl 0 (by decide) (hts _ tw_1_63) (fun _ h9 => h9) rfl (by decide +kernel) rfl rfl (Nat.le_of_ble_eq_true rfl) dX0_takeRoots_8 (fun H locs hP hD hS => ?_)
  have hP : va_P Y.1 vwCl [(dk, .inr (0, [.int (nI r), .ref sm, .ref y])), (sm, .inl (Y.2 0, 12, .inl ds)), (y, .inr (4, [.int (nI r), .ref a1, .ref a2, .ref a3, .int (nI F), .int (nI N), .int (nI T)])), (a1, .inl (Y.2 0, 12, .inl fr)), (a2, .inl (Y.2 0, 12, .inl le)), (a3, .inl (Y.2 1, 12, .inl fi)), (v, .inr (2, [.int (nI n), .ref a, .ref b])), (a, .inl (Y.2 0, 100, .inl f)), (b, .inl (Y.2 0, 256, .inl g))] _ := hP
  have hD : va_D _ [(dk, .inr (0, [.int (nI r), .ref sm, .ref y])), (sm, .inl (Y.2 0, 12, .inl ds)), (y, .inr (4, [.int (nI r), .ref a1, .ref a2, .ref a3, .int (nI F), .int (nI N), .int (nI T)])), (a1, .inl (Y.2 0, 12, .inl fr)), (a2, .inl (Y.2 0, 12, .inl le)), (a3, .inl (Y.2 1, 12, .inl fi)), (v, .inr (2, [.int (nI n), .ref a, .ref b])), (a, .inl (Y.2 0, 100, .inl f)), (b, .inl (Y.2 0, 256, .inl g))] := hD
  refine lv_iconst (v := nI 0) hx hb dX0_takeRoots_11 (by decide) ?_
  refine lv_istore_n (lv' := [(2, .int (nI 0)), (0, .ref dk), (1, .ref v)]) hx hb dX0_takeRoots_12 rfl hl (by decide) rfl (fun ls hl => ?_)
  have lp_1 : ∀ (n_2 : Nat) (j : Nat) (ds : Nat → Int32) (H : Heap) (locs : List Loc) (ls : Array Slot), r - j < n_2 → (j ≤ r) → (∀ k, k < j → ds k = th_pS f B L9 r k) → va_P Y.1 vwCl [(dk, .inr (0, [.int (nI r), .ref sm, .ref y])), (sm, .inl (Y.2 0, 12, .inl ds)), (y, .inr (4, [.int (nI r), .ref a1, .ref a2, .ref a3, .int (nI F), .int (nI N), .int (nI T)])), (a1, .inl (Y.2 0, 12, .inl fr)), (a2, .inl (Y.2 0, 12, .inl le)), (a3, .inl (Y.2 1, 12, .inl fi)), (v, .inr (2, [.int (nI n), .ref a, .ref b])), (a, .inl (Y.2 0, 100, .inl f)), (b, .inl (Y.2 0, 256, .inl g))] H → va_D (fun z => z ∈ [dk, sm, y, a1, a2, a3, v, a, b]) [(dk, .inr (0, [.int (nI r), .ref sm, .ref y])), (sm, .inl (Y.2 0, 12, .inl ds)), (y, .inr (4, [.int (nI r), .ref a1, .ref a2, .ref a3, .int (nI F), .int (nI N), .int (nI T)])), (a1, .inl (Y.2 0, 12, .inl fr)), (a2, .inl (Y.2 0, 12, .inl le)), (a3, .inl (Y.2 1, 12, .inl fi)), (v, .inr (2, [.int (nI n), .ref a, .ref b])), (a, .inl (Y.2 0, 100, .inl f)), (b, .inl (Y.2 0, 256, .inl g))] → va_S (fun z => z ∈ [dk, sm, y, a1, a2, a3, v, a, b]) H0 H locs → lv_has ls 3 [(0, .ref dk), (1, .ref v), (2, .int (nI j))] → W p l e (th_rm 3 0 0) s m args below meth c H locs 0 0 Q (F0 m 13 ls []) := by
    intro n_2; induction n_2 with
    | zero => intros; exfalso; omega
    | succ n_2 ih =>
      intro j ds H locs ls hmz hj hs hP hD hS hl
      refine lv_iload_n hx hb dX0_takeRoots_13 rfl (lv_at hl 2 rfl) ?_
      refine lv_aload_n hx hb dX0_takeRoots_14 rfl (lv_at hl 0 rfl) ?_
      refine va_get (D := Y.1) (ci := 0) (v := .int (nI r)) (C := RX0) (T := TX0) (N := 3) hx hb hts inX0 hown hK hP 0 rfl rfl 0 (by decide) (hts _ tw_1_63) (fun _ h9 => h9) rfl dX0_takeRoots_15 ?_
      refine th_ige (tgt := 51) hx hb dX0_takeRoots_18 (by decide) (by omega) (by omega) (fun c_3 => ?_) (fun c_3 => ?_)
      · skip
        refine th_vret hx hb hr hlk hQ hS dX0_takeRoots_51 (Nat.le_of_ble_eq_true rfl) (Nat.le_of_ble_eq_true rfl) ?_
        exact ⟨rfl, ds, hP, fun k hk => hs k (by omega)⟩
      refine lv_iload_n hx hb dX0_takeRoots_21 rfl (lv_at hl 2 rfl) ?_
      refine lv_aload_n hx hb dX0_takeRoots_22 rfl (lv_at hl 0 rfl) ?_
      refine va_get (D := Y.1) (ci := 0) (v := .ref sm) (C := RX0) (T := TX0) (N := 3) hx hb hts inX0 hown hK hP 0 rfl rfl 1 (by decide) (hts _ tw_1_65) (fun _ h9 => h9) rfl dX0_takeRoots_23 ?_
      refine va_alen (v := nI 12) hx hb hK hP 1 0 rfl rfl rfl dX0_takeRoots_26 ?_
      refine th_ige (tgt := 51) hx hb dX0_takeRoots_27 (by decide) (by omega) (by omega) (fun c_4 => by exfalso; omega) (fun c_4 => ?_)
      refine lv_aload_n hx hb dX0_takeRoots_30 rfl (lv_at hl 0 rfl) ?_
      refine va_get (D := Y.1) (ci := 0) (v := .ref sm) (C := RX0) (T := TX0) (N := 3) hx hb hts inX0 hown hK hP 0 rfl rfl 1 (by decide) (hts _ tw_1_65) (fun _ h9 => h9) rfl dX0_takeRoots_31 ?_
      refine lv_iload_n hx hb dX0_takeRoots_34 rfl (lv_at hl 2 rfl) ?_
      refine lv_aload_n hx hb dX0_takeRoots_35 rfl (lv_at hl 0 rfl) ?_
      refine va_get (D := Y.1) (ci := 0) (v := .ref y) (C := RX0) (T := TX0) (N := 3) hx hb hts inX0 hown hK hP 0 rfl rfl 2 (by decide) (hts _ tw_1_66) (fun _ h9 => h9) rfl dX0_takeRoots_36 ?_
      refine lv_aload_n hx hb dX0_takeRoots_39 rfl (lv_at hl 1 rfl) ?_
      refine lv_iload_n hx hb dX0_takeRoots_40 rfl (lv_at hl 2 rfl) ?_
      refine th_callV hx hb hml hown hts ⟨hK, hN⟩ hl hS (hP 2 _ rfl) rfl (rest := [.int (nI j), .ref sm]) (c_X4_rootOfPlace l Y _ y a1 a2 a3 r F N T fr le fi v a b n f g (hP.sub (ws' := [(y, .inr (4, [.int (nI r), .ref a1, .ref a2, .ref a3, .int (nI F), .int (nI N), .int (nI T)])), (a1, .inl (Y.2 0, 12, .inl fr)), (a2, .inl (Y.2 0, 12, .inl le)), (a3, .inl (Y.2 1, 12, .inl fi)), (v, .inr (2, [.int (nI n), .ref a, .ref b])), (a, .inl (Y.2 0, 100, .inl f)), (b, .inl (Y.2 0, 256, .inl g))]) [2, 3, 4, 5, 6, 7, 8] rfl) B L9 Fi hw hok (by omega) (by omega) hB j (by omega)) ok_X4_rootOfPlace tw_2_164 dX0_takeRoots_41 rfl rfl (Nat.le_of_ble_eq_true rfl) ⟨Nat.le_of_ble_eq_true rfl, Nat.le_of_ble_eq_true rfl⟩ ⟨Nat.le_of_ble_eq_true rfl, Nat.le_of_ble_eq_true rfl⟩ (fun _ h => h.elim) (th_kpi (fun locs hS => ?_))
      refine th_iast hx hb hK hP hD hS 1 rfl (j := j) (by omega) (by omega) dX0_takeRoots_44 (fun H locs hP hD hS => ?_)
      have hP : va_P Y.1 vwCl [(dk, .inr (0, [.int (nI r), .ref sm, .ref y])), (sm, .inl (Y.2 0, 12, .inl (upd ds j (th_pS f B L9 r j)))), (y, .inr (4, [.int (nI r), .ref a1, .ref a2, .ref a3, .int (nI F), .int (nI N), .int (nI T)])), (a1, .inl (Y.2 0, 12, .inl fr)), (a2, .inl (Y.2 0, 12, .inl le)), (a3, .inl (Y.2 1, 12, .inl fi)), (v, .inr (2, [.int (nI n), .ref a, .ref b])), (a, .inl (Y.2 0, 100, .inl f)), (b, .inl (Y.2 0, 256, .inl g))] _ := hP
      have hD : va_D _ [(dk, .inr (0, [.int (nI r), .ref sm, .ref y])), (sm, .inl (Y.2 0, 12, .inl (upd ds j (th_pS f B L9 r j)))), (y, .inr (4, [.int (nI r), .ref a1, .ref a2, .ref a3, .int (nI F), .int (nI N), .int (nI T)])), (a1, .inl (Y.2 0, 12, .inl fr)), (a2, .inl (Y.2 0, 12, .inl le)), (a3, .inl (Y.2 1, 12, .inl fi)), (v, .inr (2, [.int (nI n), .ref a, .ref b])), (a, .inl (Y.2 0, 100, .inl f)), (b, .inl (Y.2 0, 256, .inl g))] := hD
      refine lv_iinc (v := nI (j + 1)) (lv' := [(2, .int (nI (j + 1))), (0, .ref dk), (1, .ref v)]) hx hb dX0_takeRoots_45 hl (k := 2) rfl (nI_add _ 1) (by decide) rfl (fun ls hl => ?_)
      refine lv_goto (tgt := 13) hx hb dX0_takeRoots_48 (by decide) ?_
      exact ih (j + 1) (upd ds j (th_pS f B L9 r j)) _ _ _ (by omega) (by omega) (fun k hk => by by_cases z : k = j; (subst z; exact pk_us); (rw [pk_un z]; exact hs k (by omega))) hP hD hS (lv_sub hl [1, 2, 0] rfl)
  exact lp_1 ((r - (0)) + 1) (0) (ds) _ _ _ (Nat.lt_succ_self _) (by omega) (fun k hk => by omega) hP hD hS (lv_sub hl [1, 2, 0] rfl)

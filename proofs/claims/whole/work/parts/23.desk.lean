set_option maxRecDepth 100000 in
set_option maxHeartbeats 4000000 in
theorem c_X0_read (l : Launch) (Y : th_Y) (H : Heap) (dk sm y cnt : Nat) (ds : Nat → Int32) (hP : va_P Y.1 vwCl [(dk, .inr (0, [.int (nI cnt), .ref sm, .ref y])), (sm, .inl (Y.2 0, 12, .inl ds))] H) (q : Nat) (hq : q < cnt) (hc : cnt ≤ 12) : th_P l Y yX0_read cX0_read 2 (some .int) (th_rm 0 0 0) [.ref dk, .int (nI q)] H (fun r9 => r9 = some (.int (ds q))) := by
  refine th_M.intro (by decide) (Nat.le_of_ble_eq_true rfl) ?_
  intro p e s m args below meth c ls Q hQ C hKN hl hS
  obtain ⟨hx, hb, hr, hml, hown, hts, hlk, hnm⟩ := C
  obtain ⟨hK, hN⟩ := hKN
  have hown : s.vm.findClass RX0 = some m.cls := hown
  have hl : lv_has ls 2 [(0, .ref dk), (1, .int (nI q))] := hl
  refine lv_iload_n hx hb dX0_read_0 rfl (lv_at hl 1 rfl) ?_
  refine th_zlt (tgt := 30) hx hb dX0_read_1 (by decide) (by omega) ?_
  refine lv_iload_n hx hb dX0_read_4 rfl (lv_at hl 1 rfl) ?_
  refine lv_aload_n hx hb dX0_read_5 rfl (lv_at hl 0 rfl) ?_
  refine va_get (D := Y.1) (ci := 0) (v := .int (nI cnt)) (C := RX0) (T := TX0) (N := 3) hx hb hts inX0 hown hK hP 0 rfl rfl 0 (by decide) (hts _ tw_1_63) (fun _ h9 => h9) rfl dX0_read_6 ?_
  refine th_ige (tgt := 30) hx hb dX0_read_9 (by decide) (by omega) (by omega) (fun c_1 => by exfalso; omega) (fun c_1 => ?_)
  refine lv_iload_n hx hb dX0_read_12 rfl (lv_at hl 1 rfl) ?_
  refine lv_aload_n hx hb dX0_read_13 rfl (lv_at hl 0 rfl) ?_
  refine va_get (D := Y.1) (ci := 0) (v := .ref sm) (C := RX0) (T := TX0) (N := 3) hx hb hts inX0 hown hK hP 0 rfl rfl 1 (by decide) (hts _ tw_1_65) (fun _ h9 => h9) rfl dX0_read_14 ?_
  refine va_alen (v := nI 12) hx hb hK hP 1 0 rfl rfl rfl dX0_read_17 ?_
  refine th_ige (tgt := 30) hx hb dX0_read_18 (by decide) (by omega) (by omega) (fun c_2 => by exfalso; omega) (fun c_2 => ?_)
  refine lv_aload_n hx hb dX0_read_21 rfl (lv_at hl 0 rfl) ?_
  refine va_get (D := Y.1) (ci := 0) (v := .ref sm) (C := RX0) (T := TX0) (N := 3) hx hb hts inX0 hown hK hP 0 rfl rfl 1 (by decide) (hts _ tw_1_65) (fun _ h9 => h9) rfl dX0_read_22 ?_
  refine lv_iload_n hx hb dX0_read_25 rfl (lv_at hl 1 rfl) ?_
  refine th_iald hx hb hK hP 1 rfl (j := q) (by omega) (by omega) dX0_read_26 ?_
  refine lv_goto (tgt := 31) hx hb dX0_read_27 (by decide) ?_
  refine th_iret hx hb hr hlk hQ hS dX0_read_31 (Nat.le_of_ble_eq_true rfl) (Nat.le_of_ble_eq_true rfl) ?_
  exact ⟨rfl, rfl⟩

set_option maxRecDepth 100000 in
set_option maxHeartbeats 4000000 in
theorem c_X0_write (l : Launch) (Y : th_Y) (H0 : Heap) (dk sm y cnt : Nat) (ds : Nat → Int32) (hP : va_P Y.1 vwCl [(dk, .inr (0, [.int (nI cnt), .ref sm, .ref y])), (sm, .inl (Y.2 0, 12, .inl ds))] H0) (hD0 : va_D (fun _ => True) [(dk, .inr (0, [.int (nI cnt), .ref sm, .ref y])), (sm, .inl (Y.2 0, 12, .inl ds))]) (q : Nat) (x : Int32) (hq : q ≤ cnt) (h12 : q < 12) (hc : cnt ≤ 12) : th_M l Y yX0_write cX0_write 3 none (th_rm 0 0 0) [.ref dk, .int (nI q), .int x] H0 (fun z => z ∈ [dk, sm]) (fun r' H' => r' = none ∧ va_P Y.1 vwCl [(dk, .inr (0, [.int (nI (if q = cnt then cnt + 1 else cnt)), .ref sm, .ref y])), (sm, .inl (Y.2 0, 12, .inl (upd ds q x)))] H') := by
  refine th_M.intro (by decide) (Nat.le_of_ble_eq_true rfl) ?_
  intro p e s m args below meth c ls Q hQ C hKN hl hS
  obtain ⟨hx, hb, hr, hml, hown, hts, hlk, hnm⟩ := C
  obtain ⟨hK, hN⟩ := hKN
  have hown : s.vm.findClass RX0 = some m.cls := hown
  have hl : lv_has ls 3 [(0, .ref dk), (1, .int (nI q)), (2, .int x)] := hl
  have hD : va_D (fun z => z ∈ [dk, sm]) [(dk, .inr (0, [.int (nI cnt), .ref sm, .ref y])), (sm, .inl (Y.2 0, 12, .inl ds))] := th_mem hD0
  refine lv_iload_n hx hb dX0_write_0 rfl (lv_at hl 1 rfl) ?_
  refine th_zlt (tgt := 21) hx hb dX0_write_1 (by decide) (by omega) ?_
  refine lv_iload_n hx hb dX0_write_4 rfl (lv_at hl 1 rfl) ?_
  refine lv_aload_n hx hb dX0_write_5 rfl (lv_at hl 0 rfl) ?_
  refine va_get (D := Y.1) (ci := 0) (v := .int (nI cnt)) (C := RX0) (T := TX0) (N := 3) hx hb hts inX0 hown hK hP 0 rfl rfl 0 (by decide) (hts _ tw_1_63) (fun _ h9 => h9) rfl dX0_write_6 ?_
  refine th_igt (tgt := 21) hx hb dX0_write_9 (by decide) (by omega) (by omega) (fun c_1 => by exfalso; omega) (fun c_1 => ?_)
  refine lv_iload_n hx hb dX0_write_12 rfl (lv_at hl 1 rfl) ?_
  refine lv_aload_n hx hb dX0_write_13 rfl (lv_at hl 0 rfl) ?_
  refine va_get (D := Y.1) (ci := 0) (v := .ref sm) (C := RX0) (T := TX0) (N := 3) hx hb hts inX0 hown hK hP 0 rfl rfl 1 (by decide) (hts _ tw_1_65) (fun _ h9 => h9) rfl dX0_write_14 ?_
  refine va_alen (v := nI 12) hx hb hK hP 1 0 rfl rfl rfl dX0_write_17 ?_
  refine th_ilt (tgt := 22) hx hb dX0_write_18 (by decide) (by omega) (by omega) (fun c_2 => ?_) (fun c_2 => by exfalso; omega)
  refine lv_aload_n hx hb dX0_write_22 rfl (lv_at hl 0 rfl) ?_
  refine va_get (D := Y.1) (ci := 0) (v := .ref sm) (C := RX0) (T := TX0) (N := 3) hx hb hts inX0 hown hK hP 0 rfl rfl 1 (by decide) (hts _ tw_1_65) (fun _ h9 => h9) rfl dX0_write_23 ?_
  refine lv_iload_n hx hb dX0_write_26 rfl (lv_at hl 1 rfl) ?_
  refine lv_iload_n hx hb dX0_write_27 rfl (lv_at hl 2 rfl) ?_
  refine th_iast hx hb hK hP hD hS 1 rfl (j := q) (by omega) (by omega) dX0_write_28 (fun H locs hP hD hS => ?_)
  have hP : va_P Y.1 vwCl [(dk, .inr (0, [.int (nI cnt), .ref sm, .ref y])), (sm, .inl (Y.2 0, 12, .inl (upd ds q x)))] _ := hP
  have hD : va_D _ [(dk, .inr (0, [.int (nI cnt), .ref sm, .ref y])), (sm, .inl (Y.2 0, 12, .inl (upd ds q x)))] := hD
  refine lv_aload_n hx hb dX0_write_29 rfl (lv_at hl 0 rfl) ?_
  refine lv_iload_n hx hb dX0_write_30 rfl (lv_at hl 1 rfl) ?_
  refine lv_aload_n hx hb dX0_write_31 rfl (lv_at hl 0 rfl) ?_
  refine va_get (D := Y.1) (ci := 0) (v := .int (nI cnt)) (C := RX0) (T := TX0) (N := 3) hx hb hts inX0 hown hK hP 0 rfl rfl 0 (by decide) (hts _ tw_1_63) (fun _ h9 => h9) rfl dX0_write_32 ?_
  refine th_ine (tgt := 47) hx hb dX0_write_35 (by decide) (by omega) (by omega) (fun c_3 => ?_) (fun c_3 => ?_)
  · skip
    refine lv_aload_n hx hb dX0_write_47 rfl (lv_at hl 0 rfl) ?_
    refine va_get (D := Y.1) (ci := 0) (v := .int (nI cnt)) (C := RX0) (T := TX0) (N := 3) hx hb hts inX0 hown hK hP 0 rfl rfl 0 (by decide) (hts _ tw_1_63) (fun _ h9 => h9) rfl dX0_write_48 ?_
    refine va_put (D := Y.1) (ci := 0) (v := .int (nI cnt)) (ty := .int) (C := RX0) (T := TX0) (N := 3) hx hb hts inX0 tyX0 tyX0_ok nmX0 hown hK hP hD hS 0 rfl rfl 0 (by decide) (hts _ tw_1_63) (fun _ h9 => h9) rfl (by decide +kernel) rfl rfl (Nat.le_of_ble_eq_true rfl) dX0_write_51 (fun H locs hP hD hS => ?_)
    have hP : va_P Y.1 vwCl [(dk, .inr (0, [.int (nI cnt), .ref sm, .ref y])), (sm, .inl (Y.2 0, 12, .inl (upd ds q x)))] _ := hP
    have hD : va_D _ [(dk, .inr (0, [.int (nI cnt), .ref sm, .ref y])), (sm, .inl (Y.2 0, 12, .inl (upd ds q x)))] := hD
    refine th_vret hx hb hr hlk hQ hS dX0_write_54 (Nat.le_of_ble_eq_true rfl) (Nat.le_of_ble_eq_true rfl) ?_
    refine ⟨rfl, ?_⟩
    rw [if_neg c_3]
    exact hP
  refine lv_aload_n hx hb dX0_write_38 rfl (lv_at hl 0 rfl) ?_
  refine va_get (D := Y.1) (ci := 0) (v := .int (nI cnt)) (C := RX0) (T := TX0) (N := 3) hx hb hts inX0 hown hK hP 0 rfl rfl 0 (by decide) (hts _ tw_1_63) (fun _ h9 => h9) rfl dX0_write_39 ?_
  refine lv_iconst (v := nI 1) hx hb dX0_write_42 (by decide) ?_
  refine lv_iadd hx hb dX0_write_43 ?_
  refine th_ti (nI_add _ _) ?_
  refine lv_goto (tgt := 51) hx hb dX0_write_44 (by decide) ?_
  refine va_put (D := Y.1) (ci := 0) (v := .int (nI (cnt + 1))) (ty := .int) (C := RX0) (T := TX0) (N := 3) hx hb hts inX0 tyX0 tyX0_ok nmX0 hown hK hP hD hS 0 rfl rfl 0 (by decide) (hts _ tw_1_63) (fun _ h9 => h9) rfl (by decide +kernel) rfl rfl (Nat.le_of_ble_eq_true rfl) dX0_write_51 (fun H locs hP hD hS => ?_)
  have hP : va_P Y.1 vwCl [(dk, .inr (0, [.int (nI (cnt + 1)), .ref sm, .ref y])), (sm, .inl (Y.2 0, 12, .inl (upd ds q x)))] _ := hP
  have hD : va_D _ [(dk, .inr (0, [.int (nI (cnt + 1)), .ref sm, .ref y])), (sm, .inl (Y.2 0, 12, .inl (upd ds q x)))] := hD
  refine th_vret hx hb hr hlk hQ hS dX0_write_54 (Nat.le_of_ble_eq_true rfl) (Nat.le_of_ble_eq_true rfl) ?_
  refine ⟨rfl, ?_⟩
  rw [if_pos c_3]
  exact hP

set_option maxRecDepth 100000 in
set_option maxHeartbeats 4000000 in
theorem c_X0_dropLast (l : Launch) (Y : th_Y) (H0 : Heap) (dk sm y cnt : Nat) (ds : Nat → Int32) (hP : va_P Y.1 vwCl [(dk, .inr (0, [.int (nI cnt), .ref sm, .ref y])), (sm, .inl (Y.2 0, 12, .inl ds))] H0) (hD0 : va_D (fun _ => True) [(dk, .inr (0, [.int (nI cnt), .ref sm, .ref y])), (sm, .inl (Y.2 0, 12, .inl ds))]) (h1 : 1 ≤ cnt) (hc : cnt ≤ 12) : th_M l Y yX0_dropLast cX0_dropLast 2 (some .int) (th_rm 1 0 0) [.ref dk] H0 (fun z => z ∈ [dk, sm]) (fun r' H' => ∃ x : Int32, r' = some (.int x) ∧ x = ds (cnt - 1) ∧ va_P Y.1 vwCl [(dk, .inr (0, [.int (nI (cnt - 1)), .ref sm, .ref y])), (sm, .inl (Y.2 0, 12, .inl ds))] H') := by
  refine th_M.intro (by decide) (Nat.le_of_ble_eq_true rfl) ?_
  intro p e s m args below meth c ls Q hQ C hKN hl hS
  obtain ⟨hx, hb, hr, hml, hown, hts, hlk, hnm⟩ := C
  obtain ⟨hK, hN⟩ := hKN
  have hown : s.vm.findClass RX0 = some m.cls := hown
  have hl : lv_has ls 2 [(0, .ref dk)] := hl
  have hD : va_D (fun z => z ∈ [dk, sm]) [(dk, .inr (0, [.int (nI cnt), .ref sm, .ref y])), (sm, .inl (Y.2 0, 12, .inl ds))] := th_mem hD0
  refine lv_aload_n hx hb dX0_dropLast_0 rfl (lv_at hl 0 rfl) ?_
  refine lv_aload_n hx hb dX0_dropLast_1 rfl (lv_at hl 0 rfl) ?_
  refine va_get (D := Y.1) (ci := 0) (v := .int (nI cnt)) (C := RX0) (T := TX0) (N := 3) hx hb hts inX0 hown hK hP 0 rfl rfl 0 (by decide) (hts _ tw_1_63) (fun _ h9 => h9) rfl dX0_dropLast_2 ?_
  refine lv_iconst (v := nI 1) hx hb dX0_dropLast_5 (by decide) ?_
  refine lv_isub hx hb dX0_dropLast_6 ?_
  refine th_ti (pk_sub (by omega)) ?_
  refine th_callV hx hb hml hown hts ⟨hK, hN⟩ hl hS (hP 0 _ rfl) rfl (rest := []) (c_X0_read l Y _ dk sm y cnt ds hP (cnt - 1) (by omega) (by omega)) ok_X0_read tw_2_229 dX0_dropLast_7 rfl rfl (Nat.le_of_ble_eq_true rfl) ⟨Nat.le_of_ble_eq_true rfl, Nat.le_of_ble_eq_true rfl⟩ ⟨Nat.le_of_ble_eq_true rfl, Nat.le_of_ble_eq_true rfl⟩ (fun _ h => h.elim) (th_kpi (fun locs hS => ?_))
  refine lv_istore_n (lv' := [(1, .int (ds (cnt - 1))), (0, .ref dk)]) hx hb dX0_dropLast_10 rfl hl (by decide) rfl (fun ls hl => ?_)
  refine lv_aload_n hx hb dX0_dropLast_11 rfl (lv_at hl 1 rfl) ?_
  refine lv_aload_n hx hb dX0_dropLast_12 rfl (lv_at hl 1 rfl) ?_
  refine va_get (D := Y.1) (ci := 0) (v := .int (nI cnt)) (C := RX0) (T := TX0) (N := 3) hx hb hts inX0 hown hK hP 0 rfl rfl 0 (by decide) (hts _ tw_1_63) (fun _ h9 => h9) rfl dX0_dropLast_13 ?_
  refine th_zle (tgt := 28) hx hb dX0_dropLast_16 (by decide) (by omega) (fun c_1 => by exfalso; omega) (fun c_1 => ?_)
  refine lv_aload_n hx hb dX0_dropLast_19 rfl (lv_at hl 1 rfl) ?_
  refine va_get (D := Y.1) (ci := 0) (v := .int (nI cnt)) (C := RX0) (T := TX0) (N := 3) hx hb hts inX0 hown hK hP 0 rfl rfl 0 (by decide) (hts _ tw_1_63) (fun _ h9 => h9) rfl dX0_dropLast_20 ?_
  refine lv_iconst (v := nI 1) hx hb dX0_dropLast_23 (by decide) ?_
  refine lv_isub hx hb dX0_dropLast_24 ?_
  refine th_ti (pk_sub (by omega)) ?_
  refine lv_goto (tgt := 29) hx hb dX0_dropLast_25 (by decide) ?_
  refine va_put (D := Y.1) (ci := 0) (v := .int (nI (cnt - 1))) (ty := .int) (C := RX0) (T := TX0) (N := 3) hx hb hts inX0 tyX0 tyX0_ok nmX0 hown hK hP hD hS 0 rfl rfl 0 (by decide) (hts _ tw_1_63) (fun _ h9 => h9) rfl (by decide +kernel) rfl rfl (Nat.le_of_ble_eq_true rfl) dX0_dropLast_29 (fun H locs hP hD hS => ?_)
  have hP : va_P Y.1 vwCl [(dk, .inr (0, [.int (nI (cnt - 1)), .ref sm, .ref y])), (sm, .inl (Y.2 0, 12, .inl ds))] _ := hP
  have hD : va_D _ [(dk, .inr (0, [.int (nI (cnt - 1)), .ref sm, .ref y])), (sm, .inl (Y.2 0, 12, .inl ds))] := hD
  refine lv_iload_n hx hb dX0_dropLast_32 rfl (lv_at hl 0 rfl) ?_
  refine th_iret hx hb hr hlk hQ hS dX0_dropLast_33 (Nat.le_of_ble_eq_true rfl) (Nat.le_of_ble_eq_true rfl) ?_
  exact ⟨_, rfl, rfl, hP⟩

set_option maxRecDepth 100000 in
set_option maxHeartbeats 4000000 in
theorem c_X4_isFirstAt (l : Launch) (Y : th_Y) (H : Heap) (y a1 a2 a3 r F N T : Nat) (fr le fi : Nat → Int32) (hP : va_P Y.1 vwCl [(y, .inr (4, [.int (nI r), .ref a1, .ref a2, .ref a3, .int (nI F), .int (nI N), .int (nI T)])), (a1, .inl (Y.2 0, 12, .inl fr)), (a2, .inl (Y.2 0, 12, .inl le)), (a3, .inl (Y.2 1, 12, .inl fi))] H) (q : Nat) (hq : q < r) (hr12 : r ≤ 12) (h01 : fi (r - 1 - q) = 0 ∨ fi (r - 1 - q) = 1) : th_P l Y yX4_isFirstAt cX4_isFirstAt 3 (some .boolean) (th_rm 0 0 0) [.ref y, .int (nI q)] H (fun r9 => r9 = some (.int (fi (r - 1 - q)))) := by
  refine th_M.intro (by decide) (Nat.le_of_ble_eq_true rfl) ?_
  intro p e s m args below meth c ls Q hQ C hKN hl hS
  obtain ⟨hx, hb, hr, hml, hown, hts, hlk, hnm⟩ := C
  obtain ⟨hK, hN⟩ := hKN
  have hown : s.vm.findClass RX4 = some m.cls := hown
  have hl : lv_has ls 3 [(0, .ref y), (1, .int (nI q))] := hl
  refine lv_aload_n hx hb dX4_isFirstAt_0 rfl (lv_at hl 0 rfl) ?_
  refine va_get (D := Y.1) (ci := 4) (v := .int (nI r)) (C := RX4) (T := TX4) (N := 7) hx hb hts inX4 hown hK hP 0 rfl rfl 0 (by decide) (hts _ tw_1_39) (fun _ h9 => h9) rfl dX4_isFirstAt_1 ?_
  refine lv_iconst (v := nI 1) hx hb dX4_isFirstAt_4 (by decide) ?_
  refine lv_isub hx hb dX4_isFirstAt_5 ?_
  refine th_ti (pk_sub (by omega)) ?_
  refine lv_iload_n hx hb dX4_isFirstAt_6 rfl (lv_at hl 1 rfl) ?_
  refine lv_isub hx hb dX4_isFirstAt_7 ?_
  refine th_ti (pk_sub (by omega)) ?_
  refine lv_istore_n (lv' := [(2, .int (nI ((r - 1) - q))), (0, .ref y), (1, .int (nI q))]) hx hb dX4_isFirstAt_8 rfl hl (by decide) rfl (fun ls hl => ?_)
  refine lv_iload_n hx hb dX4_isFirstAt_9 rfl (lv_at hl 0 rfl) ?_
  refine th_zlt (tgt := 32) hx hb dX4_isFirstAt_10 (by decide) (by omega) ?_
  refine lv_iload_n hx hb dX4_isFirstAt_13 rfl (lv_at hl 0 rfl) ?_
  refine lv_bipush (v := nI 12) hx hb dX4_isFirstAt_14 (by decide) ?_
  refine th_ige (tgt := 32) hx hb dX4_isFirstAt_16 (by decide) (by omega) (by omega) (fun c_1 => by exfalso; omega) (fun c_1 => ?_)
  refine lv_aload_n hx hb dX4_isFirstAt_19 rfl (lv_at hl 1 rfl) ?_
  refine va_get (D := Y.1) (ci := 4) (v := .ref a3) (C := RX4) (T := TX4) (N := 7) hx hb hts inX4 hown hK hP 0 rfl rfl 3 (by decide) (hts _ tw_1_42) (fun _ h9 => h9) rfl dX4_isFirstAt_20 ?_
  refine lv_iload_n hx hb dX4_isFirstAt_23 rfl (lv_at hl 0 rfl) ?_
  refine th_zald hx hb hK hP 3 rfl (j := ((r - 1) - q)) (by omega) (by omega) dX4_isFirstAt_24 ?_
  refine lv_if_eq (tgt := 32) hx hb dX4_isFirstAt_25 (by decide) (fun c_2 => ?_) (fun c_2 => ?_)
  · skip
    refine lv_iconst (v := nI 0) hx hb dX4_isFirstAt_32 (by decide) ?_
    refine th_zret hx hb hr hlk hQ hS dX4_isFirstAt_33 (Nat.le_of_ble_eq_true rfl) (Nat.le_of_ble_eq_true rfl) (by first | exact Or.inl rfl | exact Or.inr rfl | assumption) ?_
    exact ⟨by rw [c_2] <;> rfl, rfl⟩
  refine lv_iconst (v := nI 1) hx hb dX4_isFirstAt_28 (by decide) ?_
  refine lv_goto (tgt := 33) hx hb dX4_isFirstAt_29 (by decide) ?_
  refine th_zret hx hb hr hlk hQ hS dX4_isFirstAt_33 (Nat.le_of_ble_eq_true rfl) (Nat.le_of_ble_eq_true rfl) (by first | exact Or.inl rfl | exact Or.inr rfl | assumption) ?_
  exact ⟨by rw [h01.resolve_left c_2] <;> rfl, rfl⟩

set_option maxRecDepth 100000 in
set_option maxHeartbeats 4000000 in
theorem c_X4_rootOfPlace (l : Launch) (Y : th_Y) (H : Heap) (y : Nat) (a1 a2 a3 r F N T : Nat) (fr le fi : Nat → Int32) (v a b n : Nat) (f g : Nat → Int32) (hP : va_P Y.1 vwCl [(y, .inr (4, [.int (nI r), .ref a1, .ref a2, .ref a3, .int (nI F), .int (nI N), .int (nI T)])), (a1, .inl (Y.2 0, 12, .inl fr)), (a2, .inl (Y.2 0, 12, .inl le)), (a3, .inl (Y.2 1, 12, .inl fi)), (v, .inr (2, [.int (nI n), .ref a, .ref b])), (a, .inl (Y.2 0, 100, .inl f)), (b, .inl (Y.2 0, 256, .inl g))] H) (B L9 : Nat → Nat) (Fi : Nat → Int32) (hw : th_RW fr le fi B L9 Fi r) (hok : ∀ i, i < r → th_al (B i) (L9 i) ∧ B i + L9 i ≤ n) (hr12 : r ≤ 12) (hn : n ≤ 100) (hB : th_BI f g n) (q : Nat) (hq : q < r) : th_P l Y yX4_rootOfPlace cX4_rootOfPlace 4 (some .int) (th_rm 2 0 0) [.ref y, .ref v, .int (nI q)] H (fun r9 => r9 = some (.int (th_pS f B L9 r q))) := by
  refine th_M.intro (by decide) (Nat.le_of_ble_eq_true rfl) ?_
  intro p e s m args below meth c ls Q hQ C hKN hl hS
  obtain ⟨hx, hb, hr, hml, hown, hts, hlk, hnm⟩ := C
  obtain ⟨hK, hN⟩ := hKN
  have hown : s.vm.findClass RX4 = some m.cls := hown
  have hl : lv_has ls 4 [(0, .ref y), (1, .ref v), (2, .int (nI q))] := hl
  refine lv_aload_n hx hb dX4_rootOfPlace_0 rfl (lv_at hl 0 rfl) ?_
  refine va_get (D := Y.1) (ci := 4) (v := .int (nI r)) (C := RX4) (T := TX4) (N := 7) hx hb hts inX4 hown hK hP 0 rfl rfl 0 (by decide) (hts _ tw_1_39) (fun _ h9 => h9) rfl dX4_rootOfPlace_1 ?_
  refine lv_iconst (v := nI 1) hx hb dX4_rootOfPlace_4 (by decide) ?_
  refine lv_isub hx hb dX4_rootOfPlace_5 ?_
  refine th_ti (pk_sub (by omega)) ?_
  refine lv_iload_n hx hb dX4_rootOfPlace_6 rfl (lv_at hl 2 rfl) ?_
  refine lv_isub hx hb dX4_rootOfPlace_7 ?_
  refine th_ti (pk_sub (by omega)) ?_
  refine lv_istore_n (lv' := [(3, .int (nI ((r - 1) - q))), (0, .ref y), (1, .ref v), (2, .int (nI q))]) hx hb dX4_rootOfPlace_8 rfl hl (by decide) rfl (fun ls hl => ?_)
  refine lv_iload_n hx hb dX4_rootOfPlace_9 rfl (lv_at hl 0 rfl) ?_
  refine th_zlt (tgt := 38) hx hb dX4_rootOfPlace_10 (by decide) (by omega) ?_
  refine lv_iload_n hx hb dX4_rootOfPlace_13 rfl (lv_at hl 0 rfl) ?_
  refine lv_bipush (v := nI 12) hx hb dX4_rootOfPlace_14 (by decide) ?_
  refine th_ige (tgt := 38) hx hb dX4_rootOfPlace_16 (by decide) (by omega) (by omega) (fun c_1 => by exfalso; omega) (fun c_1 => ?_)
  have hbz := (hok (r - 1 - q) (by omega)).2
  refine lv_aload_n hx hb dX4_rootOfPlace_19 rfl (lv_at hl 2 rfl) ?_
  refine lv_aload_n hx hb dX4_rootOfPlace_20 rfl (lv_at hl 1 rfl) ?_
  refine va_get (D := Y.1) (ci := 4) (v := .ref a1) (C := RX4) (T := TX4) (N := 7) hx hb hts inX4 hown hK hP 0 rfl rfl 1 (by decide) (hts _ tw_1_40) (fun _ h9 => h9) rfl dX4_rootOfPlace_21 ?_
  refine lv_iload_n hx hb dX4_rootOfPlace_24 rfl (lv_at hl 0 rfl) ?_
  refine th_iald hx hb hK hP 1 rfl (j := ((r - 1) - q)) (by omega) (by omega) dX4_rootOfPlace_25 ?_
  refine th_ti (show fr ((r - 1) - q) = nI (B (r - 1 - q)) from (hw _ (by omega)).1) ?_
  refine lv_aload_n hx hb dX4_rootOfPlace_26 rfl (lv_at hl 1 rfl) ?_
  refine va_get (D := Y.1) (ci := 4) (v := .ref a2) (C := RX4) (T := TX4) (N := 7) hx hb hts inX4 hown hK hP 0 rfl rfl 2 (by decide) (hts _ tw_1_41) (fun _ h9 => h9) rfl dX4_rootOfPlace_27 ?_
  refine lv_iload_n hx hb dX4_rootOfPlace_30 rfl (lv_at hl 0 rfl) ?_
  refine th_iald hx hb hK hP 2 rfl (j := ((r - 1) - q)) (by omega) (by omega) dX4_rootOfPlace_31 ?_
  refine th_ti (show le ((r - 1) - q) = nI (L9 (r - 1 - q)) from (hw _ (by omega)).2.1) ?_
  refine th_callV hx hb hml hown hts ⟨hK, hN⟩ hl hS (hP 4 _ rfl) rfl (rest := []) (c_X2_rootOfRow l Y _ v a b n f g (hP.sub (ws' := [(v, .inr (2, [.int (nI n), .ref a, .ref b])), (a, .inl (Y.2 0, 100, .inl f)), (b, .inl (Y.2 0, 256, .inl g))]) [4, 5, 6] rfl) (B (r - 1 - q)) (L9 (r - 1 - q)) (by omega) (hok _ (by omega)).2 hB (hok _ (by omega)).1) ok_X2_rootOfRow tw_2_168 dX4_rootOfPlace_32 rfl rfl (Nat.le_of_ble_eq_true rfl) ⟨Nat.le_of_ble_eq_true rfl, Nat.le_of_ble_eq_true rfl⟩ ⟨Nat.le_of_ble_eq_true rfl, Nat.le_of_ble_eq_true rfl⟩ (fun _ h => h.elim) (th_kpi (fun locs hS => ?_))
  refine lv_goto (tgt := 39) hx hb dX4_rootOfPlace_35 (by decide) ?_
  refine th_iret hx hb hr hlk hQ hS dX4_rootOfPlace_39 (Nat.le_of_ble_eq_true rfl) (Nat.le_of_ble_eq_true rfl) ?_
  exact ⟨rfl, rfl⟩

set_option maxRecDepth 100000 in
set_option maxHeartbeats 4000000 in
theorem c_X0_takeRoots (l : Launch) (Y : th_Y) (H0 : Heap) (dk sm y cnt : Nat) (ds : Nat → Int32) (a1 a2 a3 r F N T : Nat) (fr le fi : Nat → Int32) (v a b n : Nat) (f g : Nat → Int32) (hP : va_P Y.1 vwCl [(dk, .inr (0, [.int (nI cnt), .ref sm, .ref y])), (sm, .inl (Y.2 0, 12, .inl ds)), (y, .inr (4, [.int (nI r), .ref a1, .ref a2, .ref a3, .int (nI F), .int (nI N), .int (nI T)])), (a1, .inl (Y.2 0, 12, .inl fr)), (a2, .inl (Y.2 0, 12, .inl le)), (a3, .inl (Y.2 1, 12, .inl fi)), (v, .inr (2, [.int (nI n), .ref a, .ref b])), (a, .inl (Y.2 0, 100, .inl f)), (b, .inl (Y.2 0, 256, .inl g))] H0) (hD0 : va_D (fun _ => True) [(dk, .inr (0, [.int (nI cnt), .ref sm, .ref y])), (sm, .inl (Y.2 0, 12, .inl ds)), (y, .inr (4, [.int (nI r), .ref a1, .ref a2, .ref a3, .int (nI F), .int (nI N), .int (nI T)])), (a1, .inl (Y.2 0, 12, .inl fr)), (a2, .inl (Y.2 0, 12, .inl le)), (a3, .inl (Y.2 1, 12, .inl fi)), (v, .inr (2, [.int (nI n), .ref a, .ref b])), (a, .inl (Y.2 0, 100, .inl f)), (b, .inl (Y.2 0, 256, .inl g))]) (B L9 : Nat → Nat) (Fi : Nat → Int32) (hw : th_RW fr le fi B L9 Fi r) (hok : ∀ i, i < r → th_al (B i) (L9 i) ∧ B i + L9 i ≤ n) (hr12 : r ≤ 12) (hn : n ≤ 100) (hB : th_BI f g n) : th_M l Y yX0_takeRoots cX0_takeRoots 3 none (th_rm 3 0 0) [.ref dk, .ref v] H0 (fun z => z ∈ [dk, sm, y, a1, a2, a3, v, a, b]) (fun r' H' => r' = none ∧ ∃ ds', va_P Y.1 vwCl [(dk, .inr (0, [.int (nI r), .ref sm, .ref y])), (sm, .inl (Y.2 0, 12, .inl ds')), (y, .inr (4, [.int (nI r), .ref a1, .ref a2, .ref a3, .int (nI F), .int (nI N), .int (nI T)])), (a1, .inl (Y.2 0, 12, .inl fr)), (a2, .inl (Y.2 0, 12, .inl le)), (a3, .inl (Y.2 1, 12, .inl fi)), (v, .inr (2, [.int (nI n), .ref a, .ref b])), (a, .inl (Y.2 0, 100, .inl f)), (b, .inl (Y.2 0, 256, .inl g))] H' ∧ ∀ k, k < r → ds' k = th_pS f B L9 r k) := by
  refine th_M.intro (by decide) (Nat.le_of_ble_eq_true rfl) ?_
  intro p e s m args below meth c ls Q hQ C hKN hl hS
  obtain ⟨hx, hb, hr, hml, hown, hts, hlk, hnm⟩ := C
  obtain ⟨hK, hN⟩ := hKN
  have hown : s.vm.findClass RX0 = some m.cls := hown
  have hl : lv_has ls 3 [(0, .ref dk), (1, .ref v)] := hl
  have hD : va_D (fun z => z ∈ [dk, sm, y, a1, a2, a3, v, a, b]) [(dk, .inr (0, [.int (nI cnt), .ref sm, .ref y])), (sm, .inl (Y.2 0, 12, .inl ds)), (y, .inr (4, [.int (nI r), .ref a1, .ref a2, .ref a3, .int (nI F), .int (nI N), .int (nI T)])), (a1, .inl (Y.2 0, 12, .inl fr)), (a2, .inl (Y.2 0, 12, .inl le)), (a3, .inl (Y.2 1, 12, .inl fi)), (v, .inr (2, [.int (nI n), .ref a, .ref b])), (a, .inl (Y.2 0, 100, .inl f)), (b, .inl (Y.2 0, 256, .inl g))] := th_mem hD0
  refine lv_aload_n hx hb dX0_takeRoots_0 rfl (lv_at hl 0 rfl) ?_
  refine lv_aload_n hx hb dX0_takeRoots_1 rfl (lv_at hl 0 rfl) ?_
  refine va_get (D := Y.1) (ci := 0) (v := .ref y) (C := RX0) (T := TX0) (N := 3) hx hb hts inX0 hown hK hP 0 rfl rfl 2 (by decide) (hts _ tw_1_66) (fun _ h9 => h9) rfl dX0_takeRoots_2 ?_
  refine va_getN (D := Y.1) (ci := 4) (v := .int (nI r)) (C := RX4) (T := TX4) (N := 7) hx hb hts inX4 hown hK hP 2 rfl rfl 0 (by decide) (va_Nw.use rfl (tn_1_38 hN)) (fun _ h9 => h9) rfl dX0_takeRoots_5 ?_
  refine va_put (D := Y.1) (ci := 0) (v := .int (nI r)) (ty := .int) (C := RX0) (T := TX0) (N := 3) hx hb hts inX0 tyX0 tyX0_ok nmX0 hown hK hP hD hS 0 rfl rfl 0 (by decide) (hts _ tw_1_63) (fun _ h9 => h9) rfl (by decide +kernel) rfl rfl (Nat.le_of_ble_eq_true rfl) dX0_takeRoots_8 (fun H locs hP hD hS => ?_)
  have hP : va_P Y.1 vwCl [(dk, .inr (0, [.int (nI r), .ref sm, .ref y])), (sm, .inl (Y.2 0, 12, .inl ds)), (y, .inr (4, [.int (nI r), .ref a1, .ref a2, .ref a3, .int (nI F), .int (nI N), .int (nI T)])), (a1, .inl (Y.2 0, 12, .inl fr)), (a2, .inl (Y.2 0, 12, .inl le)), (a3, .inl (Y.2 1, 12, .inl fi)), (v, .inr (2, [.int (nI n), .ref a, .ref b])), (a, .inl (Y.2 0, 100, .inl f)), (b, .inl (Y.2 0, 256, .inl g))] _ := hP
  have hD : va_D _ [(dk, .inr (0, [.int (nI r), .ref sm, .ref y])), (sm, .inl (Y.2 0, 12, .inl ds)), (y, .inr (4, [.int (nI r), .ref a1, .ref a2, .ref a3, .int (nI F), .int (nI N), .int (nI T)])), (a1, .inl (Y.2 0, 12, .inl fr)), (a2, .inl (Y.2 0, 12, .inl le)), (a3, .inl (Y.2 1, 12, .inl fi)), (v, .inr (2, [.int (nI n), .ref a, .ref b])), (a, .inl (Y.2 0, 100, .inl f)), (b, .inl (Y.2 0, 256, .inl g))] := hD
  refine lv_iconst (v := nI 0) hx hb dX0_takeRoots_11 (by decide) ?_
  refine lv_istore_n (lv' := [(2, .int (nI 0)), (0, .ref dk), (1, .ref v)]) hx hb dX0_takeRoots_12 rfl hl (by decide) rfl (fun ls hl => ?_)
  have lp_1 : ∀ (n_2 : Nat) (j : Nat) (ds : Nat → Int32) (H : Heap) (locs : List Loc) (ls : Array Slot), r - j < n_2 → (j ≤ r) → (∀ k, k < j → ds k = th_pS f B L9 r k) → va_P Y.1 vwCl [(dk, .inr (0, [.int (nI r), .ref sm, .ref y])), (sm, .inl (Y.2 0, 12, .inl ds)), (y, .inr (4, [.int (nI r), .ref a1, .ref a2, .ref a3, .int (nI F), .int (nI N), .int (nI T)])), (a1, .inl (Y.2 0, 12, .inl fr)), (a2, .inl (Y.2 0, 12, .inl le)), (a3, .inl (Y.2 1, 12, .inl fi)), (v, .inr (2, [.int (nI n), .ref a, .ref b])), (a, .inl (Y.2 0, 100, .inl f)), (b, .inl (Y.2 0, 256, .inl g))] H → va_D (fun z => z ∈ [dk, sm, y, a1, a2, a3, v, a, b]) [(dk, .inr (0, [.int (nI r), .ref sm, .ref y])), (sm, .inl (Y.2 0, 12, .inl ds)), (y, .inr (4, [.int (nI r), .ref a1, .ref a2, .ref a3, .int (nI F), .int (nI N), .int (nI T)])), (a1, .inl (Y.2 0, 12, .inl fr)), (a2, .inl (Y.2 0, 12, .inl le)), (a3, .inl (Y.2 1, 12, .inl fi)), (v, .inr (2, [.int (nI n), .ref a, .ref b])), (a, .inl (Y.2 0, 100, .inl f)), (b, .inl (Y.2 0, 256, .inl g))] → va_S (fun z => z ∈ [dk, sm, y, a1, a2, a3, v, a, b]) H0 H locs → lv_has ls 3 [(0, .ref dk), (1, .ref v), (2, .int (nI j))] → W p l e (th_rm 3 0 0) s m args below meth c H locs 0 0 Q (F0 m 13 ls []) := by
    intro n_2; induction n_2 with
    | zero => intros; exfalso; omega
    | succ n_2 ih =>
      intro j ds H locs ls hmz hj hs hP hD hS hl
      refine lv_iload_n hx hb dX0_takeRoots_13 rfl (lv_at hl 2 rfl) ?_
      refine lv_aload_n hx hb dX0_takeRoots_14 rfl (lv_at hl 0 rfl) ?_
      refine va_get (D := Y.1) (ci := 0) (v := .int (nI r)) (C := RX0) (T := TX0) (N := 3) hx hb hts inX0 hown hK hP 0 rfl rfl 0 (by decide) (hts _ tw_1_63) (fun _ h9 => h9) rfl dX0_takeRoots_15 ?_
      refine th_ige (tgt := 51) hx hb dX0_takeRoots_18 (by decide) (by omega) (by omega) (fun c_3 => ?_) (fun c_3 => ?_)
      · skip
        refine th_vret hx hb hr hlk hQ hS dX0_takeRoots_51 (Nat.le_of_ble_eq_true rfl) (Nat.le_of_ble_eq_true rfl) ?_
        exact ⟨rfl, ds, hP, fun k hk => hs k (by omega)⟩
      refine lv_iload_n hx hb dX0_takeRoots_21 rfl (lv_at hl 2 rfl) ?_
      refine lv_aload_n hx hb dX0_takeRoots_22 rfl (lv_at hl 0 rfl) ?_
      refine va_get (D := Y.1) (ci := 0) (v := .ref sm) (C := RX0) (T := TX0) (N := 3) hx hb hts inX0 hown hK hP 0 rfl rfl 1 (by decide) (hts _ tw_1_65) (fun _ h9 => h9) rfl dX0_takeRoots_23 ?_
      refine va_alen (v := nI 12) hx hb hK hP 1 0 rfl rfl rfl dX0_takeRoots_26 ?_
      refine th_ige (tgt := 51) hx hb dX0_takeRoots_27 (by decide) (by omega) (by omega) (fun c_4 => by exfalso; omega) (fun c_4 => ?_)
      refine lv_aload_n hx hb dX0_takeRoots_30 rfl (lv_at hl 0 rfl) ?_
      refine va_get (D := Y.1) (ci := 0) (v := .ref sm) (C := RX0) (T := TX0) (N := 3) hx hb hts inX0 hown hK hP 0 rfl rfl 1 (by decide) (hts _ tw_1_65) (fun _ h9 => h9) rfl dX0_takeRoots_31 ?_
      refine lv_iload_n hx hb dX0_takeRoots_34 rfl (lv_at hl 2 rfl) ?_
      refine lv_aload_n hx hb dX0_takeRoots_35 rfl (lv_at hl 0 rfl) ?_
      refine va_get (D := Y.1) (ci := 0) (v := .ref y) (C := RX0) (T := TX0) (N := 3) hx hb hts inX0 hown hK hP 0 rfl rfl 2 (by decide) (hts _ tw_1_66) (fun _ h9 => h9) rfl dX0_takeRoots_36 ?_
      refine lv_aload_n hx hb dX0_takeRoots_39 rfl (lv_at hl 1 rfl) ?_
      refine lv_iload_n hx hb dX0_takeRoots_40 rfl (lv_at hl 2 rfl) ?_
      refine th_callV hx hb hml hown hts ⟨hK, hN⟩ hl hS (hP 2 _ rfl) rfl (rest := [.int (nI j), .ref sm]) (c_X4_rootOfPlace l Y _ y a1 a2 a3 r F N T fr le fi v a b n f g (hP.sub (ws' := [(y, .inr (4, [.int (nI r), .ref a1, .ref a2, .ref a3, .int (nI F), .int (nI N), .int (nI T)])), (a1, .inl (Y.2 0, 12, .inl fr)), (a2, .inl (Y.2 0, 12, .inl le)), (a3, .inl (Y.2 1, 12, .inl fi)), (v, .inr (2, [.int (nI n), .ref a, .ref b])), (a, .inl (Y.2 0, 100, .inl f)), (b, .inl (Y.2 0, 256, .inl g))]) [2, 3, 4, 5, 6, 7, 8] rfl) B L9 Fi hw hok (by omega) (by omega) hB j (by omega)) ok_X4_rootOfPlace tw_2_164 dX0_takeRoots_41 rfl rfl (Nat.le_of_ble_eq_true rfl) ⟨Nat.le_of_ble_eq_true rfl, Nat.le_of_ble_eq_true rfl⟩ ⟨Nat.le_of_ble_eq_true rfl, Nat.le_of_ble_eq_true rfl⟩ (fun _ h => h.elim) (th_kpi (fun locs hS => ?_))
      refine th_iast hx hb hK hP hD hS 1 rfl (j := j) (by omega) (by omega) dX0_takeRoots_44 (fun H locs hP hD hS => ?_)
      have hP : va_P Y.1 vwCl [(dk, .inr (0, [.int (nI r), .ref sm, .ref y])), (sm, .inl (Y.2 0, 12, .inl (upd ds j (th_pS f B L9 r j)))), (y, .inr (4, [.int (nI r), .ref a1, .ref a2, .ref a3, .int (nI F), .int (nI N), .int (nI T)])), (a1, .inl (Y.2 0, 12, .inl fr)), (a2, .inl (Y.2 0, 12, .inl le)), (a3, .inl (Y.2 1, 12, .inl fi)), (v, .inr (2, [.int (nI n), .ref a, .ref b])), (a, .inl (Y.2 0, 100, .inl f)), (b, .inl (Y.2 0, 256, .inl g))] _ := hP
      have hD : va_D _ [(dk, .inr (0, [.int (nI r), .ref sm, .ref y])), (sm, .inl (Y.2 0, 12, .inl (upd ds j (th_pS f B L9 r j)))), (y, .inr (4, [.int (nI r), .ref a1, .ref a2, .ref a3, .int (nI F), .int (nI N), .int (nI T)])), (a1, .inl (Y.2 0, 12, .inl fr)), (a2, .inl (Y.2 0, 12, .inl le)), (a3, .inl (Y.2 1, 12, .inl fi)), (v, .inr (2, [.int (nI n), .ref a, .ref b])), (a, .inl (Y.2 0, 100, .inl f)), (b, .inl (Y.2 0, 256, .inl g))] := hD
      refine lv_iinc (v := nI (j + 1)) (lv' := [(2, .int (nI (j + 1))), (0, .ref dk), (1, .ref v)]) hx hb dX0_takeRoots_45 hl (k := 2) rfl (nI_add _ 1) (by decide) rfl (fun ls hl => ?_)
      refine lv_goto (tgt := 13) hx hb dX0_takeRoots_48 (by decide) ?_
      exact ih (j + 1) (upd ds j (th_pS f B L9 r j)) _ _ _ (by omega) (by omega) (fun k hk => by by_cases z : k = j; (subst z; exact pk_us); (rw [pk_un z]; exact hs k (by omega))) hP hD hS (lv_sub hl [1, 2, 0] rfl)
  exact lp_1 ((r - (0)) + 1) (0) (ds) _ _ _ (Nat.lt_succ_self _) (by omega) (fun k hk => by omega) hP hD hS (lv_sub hl [1, 2, 0] rfl)

set_option maxRecDepth 100000 in
set_option maxHeartbeats 4000000 in
theorem c_X1_valueAt (l : Launch) (Y : th_Y) (H : Heap) (km kva ksa : Nat) (kv ks : Nat → Int32) (hP : va_P Y.1 vwCl [(km, .inr (1, [.ref kva, .ref ksa])), (kva, .inl (Y.2 0, 64, .inl kv)), (ksa, .inl (Y.2 0, 128, .inl ks))] H) (key : Nat) (hk : key < 64) : th_P l Y yX1_valueAt cX1_valueAt 2 (some .int) (th_rm 0 0 0) [.ref km, .int (nI key)] H (fun r9 => r9 = some (.int (kv key))) := by
  refine th_M.intro (by decide) (Nat.le_of_ble_eq_true rfl) ?_
  intro p e s m args below meth c ls Q hQ C hKN hl hS
  obtain ⟨hx, hb, hr, hml, hown, hts, hlk, hnm⟩ := C
  obtain ⟨hK, hN⟩ := hKN
  have hown : s.vm.findClass RX1 = some m.cls := hown
  have hl : lv_has ls 2 [(0, .ref km), (1, .int (nI key))] := hl
  refine lv_iload_n hx hb dX1_valueAt_0 rfl (lv_at hl 1 rfl) ?_
  refine th_zlt (tgt := 22) hx hb dX1_valueAt_1 (by decide) (by omega) ?_
  refine lv_iload_n hx hb dX1_valueAt_4 rfl (lv_at hl 1 rfl) ?_
  refine lv_aload_n hx hb dX1_valueAt_5 rfl (lv_at hl 0 rfl) ?_
  refine va_get (D := Y.1) (ci := 1) (v := .ref kva) (C := RX1) (T := TX1) (N := 2) hx hb hts inX1 hown hK hP 0 rfl rfl 0 (by decide) (hts _ tw_1_80) (fun _ h9 => h9) rfl dX1_valueAt_6 ?_
  refine va_alen (v := nI 64) hx hb hK hP 1 0 rfl rfl rfl dX1_valueAt_9 ?_
  refine th_ige (tgt := 22) hx hb dX1_valueAt_10 (by decide) (by omega) (by omega) (fun c_1 => by exfalso; omega) (fun c_1 => ?_)
  refine lv_aload_n hx hb dX1_valueAt_13 rfl (lv_at hl 0 rfl) ?_
  refine va_get (D := Y.1) (ci := 1) (v := .ref kva) (C := RX1) (T := TX1) (N := 2) hx hb hts inX1 hown hK hP 0 rfl rfl 0 (by decide) (hts _ tw_1_80) (fun _ h9 => h9) rfl dX1_valueAt_14 ?_
  refine lv_iload_n hx hb dX1_valueAt_17 rfl (lv_at hl 1 rfl) ?_
  refine th_iald hx hb hK hP 1 rfl (j := key) (by omega) (by omega) dX1_valueAt_18 ?_
  refine lv_goto (tgt := 23) hx hb dX1_valueAt_19 (by decide) ?_
  refine th_iret hx hb hr hlk hQ hS dX1_valueAt_23 (Nat.le_of_ble_eq_true rfl) (Nat.le_of_ble_eq_true rfl) ?_
  exact ⟨rfl, rfl⟩

set_option maxRecDepth 100000 in
set_option maxHeartbeats 4000000 in
theorem c_X1_rootSum (l : Launch) (Y : th_Y) (H : Heap) (km kva ksa : Nat) (kv ks : Nat → Int32) (hP : va_P Y.1 vwCl [(km, .inr (1, [.ref kva, .ref ksa])), (kva, .inl (Y.2 0, 64, .inl kv)), (ksa, .inl (Y.2 0, 128, .inl ks))] H) (hM : th_MI kv ks) : th_P l Y yX1_rootSum cX1_rootSum 1 (some .int) (th_rm 0 0 0) [.ref km] H (fun r9 => r9 = some (.int (th_lv kv 6 0))) := by
  refine th_M.intro (by decide) (Nat.le_of_ble_eq_true rfl) ?_
  intro p e s m args below meth c ls Q hQ C hKN hl hS
  obtain ⟨hx, hb, hr, hml, hown, hts, hlk, hnm⟩ := C
  obtain ⟨hK, hN⟩ := hKN
  have hown : s.vm.findClass RX1 = some m.cls := hown
  have hl : lv_has ls 1 [(0, .ref km)] := hl
  refine lv_aload_n hx hb dX1_rootSum_0 rfl (lv_at hl 0 rfl) ?_
  refine va_get (D := Y.1) (ci := 1) (v := .ref ksa) (C := RX1) (T := TX1) (N := 2) hx hb hts inX1 hown hK hP 0 rfl rfl 1 (by decide) (hts _ tw_1_81) (fun _ h9 => h9) rfl dX1_rootSum_1 ?_
  refine lv_iconst (v := nI 1) hx hb dX1_rootSum_4 (by decide) ?_
  refine th_iald hx hb hK hP 2 rfl (j := 1) (by omega) (by omega) dX1_rootSum_5 ?_
  refine th_iret hx hb hr hlk hQ hS dX1_rootSum_6 (Nat.le_of_ble_eq_true rfl) (Nat.le_of_ble_eq_true rfl) ?_
  exact ⟨congrArg (fun z => some (Value.int z)) (hM 6 0 (by decide) (by decide)), rfl⟩

set_option maxRecDepth 100000 in
set_option maxHeartbeats 4000000 in
theorem c_X1_sumBeside (l : Launch) (Y : th_Y) (H : Heap) (km kva ksa : Nat) (kv ks : Nat → Int32) (hP : va_P Y.1 vwCl [(km, .inr (1, [.ref kva, .ref ksa])), (kva, .inl (Y.2 0, 64, .inl kv)), (ksa, .inl (Y.2 0, 128, .inl ks))] H) (hM : th_MI kv ks) (key t : Nat) (hk : key < 64) (ht : t < 6) : th_P l Y yX1_sumBeside cX1_sumBeside 3 (some .int) (th_rm 0 0 0) [.ref km, .int (nI key), .int (nI t)] H (fun r9 => r9 = some (.int (th_lv kv t (key / 2 ^ t ^^^ 1)))) := by
  refine th_M.intro (by decide) (Nat.le_of_ble_eq_true rfl) ?_
  intro p e s m args below meth c ls Q hQ C hKN hl hS
  obtain ⟨hx, hb, hr, hml, hown, hts, hlk, hnm⟩ := C
  obtain ⟨hK, hN⟩ := hKN
  have hown : s.vm.findClass RX1 = some m.cls := hown
  have hl : lv_has ls 3 [(0, .ref km), (1, .int (nI key)), (2, .int (nI t))] := hl
  refine lv_iload_n hx hb dX1_sumBeside_0 rfl (lv_at hl 1 rfl) ?_
  refine th_zlt (tgt := 20) hx hb dX1_sumBeside_1 (by decide) (by omega) ?_
  refine lv_iload_n hx hb dX1_sumBeside_4 rfl (lv_at hl 1 rfl) ?_
  refine lv_bipush (v := nI 64) hx hb dX1_sumBeside_5 (by decide) ?_
  refine th_ige (tgt := 20) hx hb dX1_sumBeside_7 (by decide) (by omega) (by omega) (fun c_1 => by exfalso; omega) (fun c_1 => ?_)
  refine lv_iload_n hx hb dX1_sumBeside_10 rfl (lv_at hl 2 rfl) ?_
  refine th_zlt (tgt := 20) hx hb dX1_sumBeside_11 (by decide) (by omega) ?_
  refine lv_iload_n hx hb dX1_sumBeside_14 rfl (lv_at hl 2 rfl) ?_
  refine lv_bipush (v := nI 6) hx hb dX1_sumBeside_15 (by decide) ?_
  refine th_ilt (tgt := 22) hx hb dX1_sumBeside_17 (by decide) (by omega) (by omega) (fun c_2 => ?_) (fun c_2 => by exfalso; omega)
  obtain ⟨ux1, ux2⟩ := th_xorK key hk t ht
  have ux3 : 64 / 2 ^ t ≤ 64 := Nat.div_le_self _ _
  have ux4 : (64 + key) / 2 ^ t ≤ 64 + key := Nat.div_le_self _ _
  refine lv_aload_n hx hb dX1_sumBeside_22 rfl (lv_at hl 0 rfl) ?_
  refine va_get (D := Y.1) (ci := 1) (v := .ref ksa) (C := RX1) (T := TX1) (N := 2) hx hb hts inX1 hown hK hP 0 rfl rfl 1 (by decide) (hts _ tw_1_81) (fun _ h9 => h9) rfl dX1_sumBeside_23 ?_
  refine lv_bipush (v := nI 64) hx hb dX1_sumBeside_26 (by decide) ?_
  refine lv_iload_n hx hb dX1_sumBeside_28 rfl (lv_at hl 1 rfl) ?_
  refine lv_iadd hx hb dX1_sumBeside_29 ?_
  refine th_ti (nI_add _ _) ?_
  refine lv_iload_n hx hb dX1_sumBeside_30 rfl (lv_at hl 2 rfl) ?_
  refine lv_ishr hx hb dX1_sumBeside_31 ?_
  refine th_ti (show (nI (64 + key)) >>> ((nI t) &&& 31) = nI ((64 + key) / 2 ^ t) from pk_shrN (by omega) _ t (th_s5 t (by omega))) ?_
  refine lv_iconst (v := nI 1) hx hb dX1_sumBeside_32 (by decide) ?_
  refine lv_ixor hx hb dX1_sumBeside_33 ?_
  refine th_ti (show (nI ((64 + key) / 2 ^ t)) ^^^ (nI 1) = nI (64 / 2 ^ t + (key / 2 ^ t ^^^ 1)) from (th_xor1 _ (by omega)).trans (congrArg nI ux1)) ?_
  refine th_iald hx hb hK hP 2 rfl (j := (64 / 2 ^ t + (key / 2 ^ t ^^^ 1))) (by omega) (by omega) dX1_sumBeside_34 ?_
  refine th_iret hx hb hr hlk hQ hS dX1_sumBeside_35 (Nat.le_of_ble_eq_true rfl) (Nat.le_of_ble_eq_true rfl) ?_
  exact ⟨by rw [hM t _ (by omega) ux2], rfl⟩

set_option maxRecDepth 100000 in
set_option maxHeartbeats 4000000 in
theorem c_X1_replace (l : Launch) (Y : th_Y) (H0 : Heap) (km kva ksa : Nat) (kv ks : Nat → Int32) (hP : va_P Y.1 vwCl [(km, .inr (1, [.ref kva, .ref ksa])), (kva, .inl (Y.2 0, 64, .inl kv)), (ksa, .inl (Y.2 0, 128, .inl ks))] H0) (hD0 : va_D (fun _ => True) [(km, .inr (1, [.ref kva, .ref ksa])), (kva, .inl (Y.2 0, 64, .inl kv)), (ksa, .inl (Y.2 0, 128, .inl ks))]) (hM : th_MI kv ks) (key : Nat) (x : Int32) (hk : key < 64) : th_M l Y yX1_replace cX1_replace 6 (some .int) (th_rm 2 0 0) [.ref km, .int (nI key), .int x] H0 (fun z => z ∈ [km, kva, ksa]) (fun r' H' => ∃ x' : Int32, r' = some (.int x') ∧ x' = kv key ∧ ∃ ks', va_P Y.1 vwCl [(km, .inr (1, [.ref kva, .ref ksa])), (kva, .inl (Y.2 0, 64, .inl (upd kv key x))), (ksa, .inl (Y.2 0, 128, .inl ks'))] H' ∧ th_MI (upd kv key x) ks') := by
  refine th_M.intro (by decide) (Nat.le_of_ble_eq_true rfl) ?_
  intro p e s m args below meth c ls Q hQ C hKN hl hS
  obtain ⟨hx, hb, hr, hml, hown, hts, hlk, hnm⟩ := C
  obtain ⟨hK, hN⟩ := hKN
  have hown : s.vm.findClass RX1 = some m.cls := hown
  have hl : lv_has ls 6 [(0, .ref km), (1, .int (nI key)), (2, .int x)] := hl
  have hD : va_D (fun z => z ∈ [km, kva, ksa]) [(km, .inr (1, [.ref kva, .ref ksa])), (kva, .inl (Y.2 0, 64, .inl kv)), (ksa, .inl (Y.2 0, 128, .inl ks))] := th_mem hD0
  refine lv_iload_n hx hb dX1_replace_0 rfl (lv_at hl 1 rfl) ?_
  refine th_zlt (tgt := 10) hx hb dX1_replace_1 (by decide) (by omega) ?_
  refine lv_iload_n hx hb dX1_replace_4 rfl (lv_at hl 1 rfl) ?_
  refine lv_bipush (v := nI 64) hx hb dX1_replace_5 (by decide) ?_
  refine th_ilt (tgt := 12) hx hb dX1_replace_7 (by decide) (by omega) (by omega) (fun c_1 => ?_) (fun c_1 => by exfalso; omega)
  refine lv_aload_n hx hb dX1_replace_12 rfl (lv_at hl 0 rfl) ?_
  refine va_get (D := Y.1) (ci := 1) (v := .ref kva) (C := RX1) (T := TX1) (N := 2) hx hb hts inX1 hown hK hP 0 rfl rfl 0 (by decide) (hts _ tw_1_80) (fun _ h9 => h9) rfl dX1_replace_13 ?_
  refine lv_iload_n hx hb dX1_replace_16 rfl (lv_at hl 1 rfl) ?_
  refine th_iald hx hb hK hP 1 rfl (j := key) (by omega) (by omega) dX1_replace_17 ?_
  refine lv_istore_n (lv' := [(3, .int (kv key)), (0, .ref km), (1, .int (nI key)), (2, .int x)]) hx hb dX1_replace_18 rfl hl (by decide) rfl (fun ls hl => ?_)
  refine lv_aload_n hx hb dX1_replace_19 rfl (lv_at hl 1 rfl) ?_
  refine va_get (D := Y.1) (ci := 1) (v := .ref kva) (C := RX1) (T := TX1) (N := 2) hx hb hts inX1 hown hK hP 0 rfl rfl 0 (by decide) (hts _ tw_1_80) (fun _ h9 => h9) rfl dX1_replace_20 ?_
  refine lv_iload_n hx hb dX1_replace_23 rfl (lv_at hl 2 rfl) ?_
  refine lv_iload_n hx hb dX1_replace_24 rfl (lv_at hl 3 rfl) ?_
  refine th_iast hx hb hK hP hD hS 1 rfl (j := key) (by omega) (by omega) dX1_replace_25 (fun H locs hP hD hS => ?_)
  have hP : va_P Y.1 vwCl [(km, .inr (1, [.ref kva, .ref ksa])), (kva, .inl (Y.2 0, 64, .inl (upd kv key x))), (ksa, .inl (Y.2 0, 128, .inl ks))] _ := hP
  have hD : va_D _ [(km, .inr (1, [.ref kva, .ref ksa])), (kva, .inl (Y.2 0, 64, .inl (upd kv key x))), (ksa, .inl (Y.2 0, 128, .inl ks))] := hD
  refine lv_bipush (v := nI 64) hx hb dX1_replace_26 (by decide) ?_
  refine lv_iload_n hx hb dX1_replace_28 rfl (lv_at hl 2 rfl) ?_
  refine lv_iadd hx hb dX1_replace_29 ?_
  refine th_ti (nI_add _ _) ?_
  refine lv_istore (lv' := [(4, .int (nI (64 + key))), (3, .int (kv key)), (0, .ref km), (1, .int (nI key)), (2, .int x)]) hx hb dX1_replace_30 hl (by decide) rfl (fun ls hl => ?_)
  refine lv_aload_n hx hb dX1_replace_32 rfl (lv_at hl 2 rfl) ?_
  refine va_get (D := Y.1) (ci := 1) (v := .ref ksa) (C := RX1) (T := TX1) (N := 2) hx hb hts inX1 hown hK hP 0 rfl rfl 1 (by decide) (hts _ tw_1_81) (fun _ h9 => h9) rfl dX1_replace_33 ?_
  refine lv_iload hx hb dX1_replace_36 (lv_at hl 0 rfl) ?_
  refine lv_iload_n hx hb dX1_replace_38 rfl (lv_at hl 4 rfl) ?_
  refine th_callSN hx hb hml hown hts ⟨hK, hN⟩ hl hS (rest := [.int (nI (64 + key)), .ref ksa]) (c_X5_keySum l Y _ x) ok_X5_keySum (tn_3_61 hN) dX1_replace_39 rfl rfl (Nat.le_of_ble_eq_true rfl) ⟨Nat.le_of_ble_eq_true rfl, Nat.le_of_ble_eq_true rfl⟩ ⟨Nat.le_of_ble_eq_true rfl, Nat.le_of_ble_eq_true rfl⟩ (fun _ h => h.elim) (th_kpi (fun locs hS => ?_))
  refine th_iast hx hb hK hP hD hS 2 rfl (j := (64 + key)) (by omega) (by omega) dX1_replace_42 (fun H locs hP hD hS => ?_)
  have hP : va_P Y.1 vwCl [(km, .inr (1, [.ref kva, .ref ksa])), (kva, .inl (Y.2 0, 64, .inl (upd kv key x))), (ksa, .inl (Y.2 0, 128, .inl (upd ks (64 + key) (th_ks x))))] _ := hP
  have hD : va_D _ [(km, .inr (1, [.ref kva, .ref ksa])), (kva, .inl (Y.2 0, 64, .inl (upd kv key x))), (ksa, .inl (Y.2 0, 128, .inl (upd ks (64 + key) (th_ks x))))] := hD
  refine lv_iconst (v := nI 0) hx hb dX1_replace_43 (by decide) ?_
  refine lv_istore (lv' := [(5, .int (nI 0)), (4, .int (nI (64 + key))), (3, .int (kv key)), (0, .ref km), (1, .int (nI key)), (2, .int x)]) hx hb dX1_replace_44 hl (by decide) rfl (fun ls hl => ?_)
  have lp_2 : ∀ (n_3 : Nat) (q : Nat) (t : Nat) (ks : Nat → Int32) (H : Heap) (locs : List Loc) (ls : Array Slot), 6 - t < n_3 → (t ≤ 6) → (q = (64 + key) / 2 ^ t) → (th_MJ (upd kv key x) ks key t) → va_P Y.1 vwCl [(km, .inr (1, [.ref kva, .ref ksa])), (kva, .inl (Y.2 0, 64, .inl (upd kv key x))), (ksa, .inl (Y.2 0, 128, .inl ks))] H → va_D (fun z => z ∈ [km, kva, ksa]) [(km, .inr (1, [.ref kva, .ref ksa])), (kva, .inl (Y.2 0, 64, .inl (upd kv key x))), (ksa, .inl (Y.2 0, 128, .inl ks))] → va_S (fun z => z ∈ [km, kva, ksa]) H0 H locs → lv_has ls 6 [(0, .ref km), (1, .int (nI key)), (2, .int x), (3, .int (kv key)), (4, .int (nI q)), (5, .int (nI t))] → W p l e (th_rm 2 0 0) s m args below meth c H locs 0 0 Q (F0 m 46 ls []) := by
    intro n_3; induction n_3 with
    | zero => intros; exfalso; omega
    | succ n_3 ih =>
      intro q t ks H locs ls hmz ht hq hJ hP hD hS hl
      have h5 : q ≤ 64 + key := by rw [hq]; exact Nat.div_le_self _ _
      refine lv_iload hx hb dX1_replace_46 (lv_at hl 5 rfl) ?_
      refine lv_bipush (v := nI 6) hx hb dX1_replace_48 (by decide) ?_
      refine th_ige (tgt := 95) hx hb dX1_replace_50 (by decide) (by omega) (by omega) (fun c_4 => ?_) (fun c_4 => ?_)
      · skip
        refine lv_iload_n hx hb dX1_replace_95 rfl (lv_at hl 3 rfl) ?_
        refine th_iret hx hb hr hlk hQ hS dX1_replace_96 (Nat.le_of_ble_eq_true rfl) (Nat.le_of_ble_eq_true rfl) ?_
        exact ⟨_, rfl, rfl, ks, hP, th_MJ_e (by omega) hJ⟩
      obtain ⟨k1, k2, k3, k4⟩ := th_MJ_s hk (show t < 6 by omega) hJ hq
      refine lv_iload hx hb dX1_replace_53 (lv_at hl 4 rfl) ?_
      refine lv_iconst (v := nI 1) hx hb dX1_replace_55 (by decide) ?_
      refine lv_ishr hx hb dX1_replace_56 ?_
      refine th_ti (show (nI q) >>> ((nI 1) &&& 31) = nI (q / 2) from pk_shrN (by omega) _ 1 (by decide)) ?_
      refine lv_istore (lv' := [(4, .int (nI (q / 2))), (0, .ref km), (1, .int (nI key)), (2, .int x), (3, .int (kv key)), (5, .int (nI t))]) hx hb dX1_replace_57 hl (by decide) rfl (fun ls hl => ?_)
      refine lv_aload_n hx hb dX1_replace_59 rfl (lv_at hl 1 rfl) ?_
      refine va_get (D := Y.1) (ci := 1) (v := .ref ksa) (C := RX1) (T := TX1) (N := 2) hx hb hts inX1 hown hK hP 0 rfl rfl 1 (by decide) (hts _ tw_1_81) (fun _ h9 => h9) rfl dX1_replace_60 ?_
      refine lv_iload hx hb dX1_replace_63 (lv_at hl 0 rfl) ?_
      refine lv_aload_n hx hb dX1_replace_65 rfl (lv_at hl 1 rfl) ?_
      refine va_get (D := Y.1) (ci := 1) (v := .ref ksa) (C := RX1) (T := TX1) (N := 2) hx hb hts inX1 hown hK hP 0 rfl rfl 1 (by decide) (hts _ tw_1_81) (fun _ h9 => h9) rfl dX1_replace_66 ?_
      refine lv_iconst (v := nI 2) hx hb dX1_replace_69 (by decide) ?_
      refine lv_iload hx hb dX1_replace_70 (lv_at hl 0 rfl) ?_
      refine lv_imul hx hb dX1_replace_72 ?_
      refine th_ti (pk_mul _ _) ?_
      refine th_iald hx hb hK hP 2 rfl (j := (2 * (q / 2))) (by omega) (by omega) dX1_replace_73 ?_
      refine lv_aload_n hx hb dX1_replace_74 rfl (lv_at hl 1 rfl) ?_
      refine va_get (D := Y.1) (ci := 1) (v := .ref ksa) (C := RX1) (T := TX1) (N := 2) hx hb hts inX1 hown hK hP 0 rfl rfl 1 (by decide) (hts _ tw_1_81) (fun _ h9 => h9) rfl dX1_replace_75 ?_
      refine lv_iconst (v := nI 2) hx hb dX1_replace_78 (by decide) ?_
      refine lv_iload hx hb dX1_replace_79 (lv_at hl 0 rfl) ?_
      refine lv_imul hx hb dX1_replace_81 ?_
      refine th_ti (pk_mul _ _) ?_
      refine lv_iconst (v := nI 1) hx hb dX1_replace_82 (by decide) ?_
      refine lv_iadd hx hb dX1_replace_83 ?_
      refine th_ti (nI_add _ _) ?_
      refine th_iald hx hb hK hP 2 rfl (j := ((2 * (q / 2)) + 1)) (by omega) (by omega) dX1_replace_84 ?_
      refine th_callSN hx hb hml hown hts ⟨hK, hN⟩ hl hS (rest := [.int (nI (q / 2)), .ref ksa]) (c_X5_mapMix l Y _ (ks (2 * (q / 2))) (ks ((2 * (q / 2)) + 1))) ok_X5_mapMix (tn_3_62 hN) dX1_replace_85 rfl rfl (Nat.le_of_ble_eq_true rfl) ⟨Nat.le_of_ble_eq_true rfl, Nat.le_of_ble_eq_true rfl⟩ ⟨Nat.le_of_ble_eq_true rfl, Nat.le_of_ble_eq_true rfl⟩ (fun _ h => h.elim) (th_kpi (fun locs hS => ?_))
      refine th_iast hx hb hK hP hD hS 2 rfl (j := (q / 2)) (by omega) (by omega) dX1_replace_88 (fun H locs hP hD hS => ?_)
      have hP : va_P Y.1 vwCl [(km, .inr (1, [.ref kva, .ref ksa])), (kva, .inl (Y.2 0, 64, .inl (upd kv key x))), (ksa, .inl (Y.2 0, 128, .inl (upd ks (q / 2) (th_jn (ks (2 * (q / 2))) (ks ((2 * (q / 2)) + 1))))))] _ := hP
      have hD : va_D _ [(km, .inr (1, [.ref kva, .ref ksa])), (kva, .inl (Y.2 0, 64, .inl (upd kv key x))), (ksa, .inl (Y.2 0, 128, .inl (upd ks (q / 2) (th_jn (ks (2 * (q / 2))) (ks ((2 * (q / 2)) + 1))))))] := hD
      refine lv_iinc (v := nI (t + 1)) (lv' := [(5, .int (nI (t + 1))), (4, .int (nI (q / 2))), (0, .ref km), (1, .int (nI key)), (2, .int x), (3, .int (kv key))]) hx hb dX1_replace_89 hl (k := 5) rfl (nI_add _ 1) (by decide) rfl (fun ls hl => ?_)
      refine lv_goto (tgt := 46) hx hb dX1_replace_92 (by decide) ?_
      exact ih (q / 2) (t + 1) (upd ks (q / 2) (th_jn (ks (2 * (q / 2))) (ks (2 * (q / 2) + 1)))) _ _ _ (by omega) (by omega) (k2) (k1) hP hD hS (lv_sub hl [2, 3, 4, 5, 1, 0] rfl)
  exact lp_2 ((6 - (0)) + 1) (64 + key) (0) (upd ks (64 + key) (th_ks x)) _ _ _ (Nat.lt_succ_self _) (by omega) (by rw [Nat.pow_zero, Nat.div_one]) (th_MJ_0 x hk hM) hP hD hS (lv_sub hl [3, 4, 5, 2, 1, 0] rfl)

set_option maxRecDepth 100000 in
set_option maxHeartbeats 4000000 in
theorem c_X0_takeLeafProof (l : Launch) (Y : th_Y) (H0 : Heap) (dk sm y cnt : Nat) (ds : Nat → Int32) (a1 a2 a3 r F N T : Nat) (fr le fi : Nat → Int32) (v a b n : Nat) (f g : Nat → Int32) (hP : va_P Y.1 vwCl [(dk, .inr (0, [.int (nI cnt), .ref sm, .ref y])), (sm, .inl (Y.2 0, 12, .inl ds)), (y, .inr (4, [.int (nI r), .ref a1, .ref a2, .ref a3, .int (nI F), .int (nI N), .int (nI T)])), (a1, .inl (Y.2 0, 12, .inl fr)), (a2, .inl (Y.2 0, 12, .inl le)), (a3, .inl (Y.2 1, 12, .inl fi)), (v, .inr (2, [.int (nI n), .ref a, .ref b])), (a, .inl (Y.2 0, 100, .inl f)), (b, .inl (Y.2 0, 256, .inl g))] H0) (hD0 : va_D (fun _ => True) [(dk, .inr (0, [.int (nI cnt), .ref sm, .ref y])), (sm, .inl (Y.2 0, 12, .inl ds)), (y, .inr (4, [.int (nI r), .ref a1, .ref a2, .ref a3, .int (nI F), .int (nI N), .int (nI T)])), (a1, .inl (Y.2 0, 12, .inl fr)), (a2, .inl (Y.2 0, 12, .inl le)), (a3, .inl (Y.2 1, 12, .inl fi)), (v, .inr (2, [.int (nI n), .ref a, .ref b])), (a, .inl (Y.2 0, 100, .inl f)), (b, .inl (Y.2 0, 256, .inl g))]) (hn : n ≤ 100) (hB : th_BI f g n) (t m0 : Nat) (ht : t < m0) (hm0 : m0 ≤ n) : th_M l Y yX0_takeLeafProof cX0_takeLeafProof 4 none (th_rm 4 0 0) [.ref dk, .ref v, .int (nI t), .int (nI m0)] H0 (fun z => z ∈ [dk, sm, y, a1, a2, a3, v, a, b]) (fun r' H' => r' = none ∧ ∃ ds', (∃ (r1 F1 N1 T1 : Nat) (fr1 le1 fi1 : Nat → Int32), va_P Y.1 vwCl [(dk, .inr (0, [.int (nI (th_dL (0, m0, t))), .ref sm, .ref y])), (sm, .inl (Y.2 0, 12, .inl ds')), (y, .inr (4, [.int (nI r1), .ref a1, .ref a2, .ref a3, .int (nI F1), .int (nI N1), .int (nI T1)])), (a1, .inl (Y.2 0, 12, .inl fr1)), (a2, .inl (Y.2 0, 12, .inl le1)), (a3, .inl (Y.2 1, 12, .inl fi1)), (v, .inr (2, [.int (nI n), .ref a, .ref b])), (a, .inl (Y.2 0, 100, .inl f)), (b, .inl (Y.2 0, 256, .inl g))] H') ∧ ∀ k, k < th_dL (0, m0, t) → ds' k = th_pS f (th_B (0, m0, t)) (th_L (0, m0, t)) (th_dL (0, m0, t)) k) := by
  refine th_M.intro (by decide) (Nat.le_of_ble_eq_true rfl) ?_
  intro p e s m args below meth c ls Q hQ C hKN hl hS
  obtain ⟨hx, hb, hr, hml, hown, hts, hlk, hnm⟩ := C
  obtain ⟨hK, hN⟩ := hKN
  have hown : s.vm.findClass RX0 = some m.cls := hown
  have hl : lv_has ls 4 [(0, .ref dk), (1, .ref v), (2, .int (nI t)), (3, .int (nI m0))] := hl
  have hD : va_D (fun z => z ∈ [dk, sm, y, a1, a2, a3, v, a, b]) [(dk, .inr (0, [.int (nI cnt), .ref sm, .ref y])), (sm, .inl (Y.2 0, 12, .inl ds)), (y, .inr (4, [.int (nI r), .ref a1, .ref a2, .ref a3, .int (nI F), .int (nI N), .int (nI T)])), (a1, .inl (Y.2 0, 12, .inl fr)), (a2, .inl (Y.2 0, 12, .inl le)), (a3, .inl (Y.2 1, 12, .inl fi)), (v, .inr (2, [.int (nI n), .ref a, .ref b])), (a, .inl (Y.2 0, 100, .inl f)), (b, .inl (Y.2 0, 256, .inl g))] := th_mem hD0
  have hrw := th_rowsL (n := m0) (q := (0, m0, t)) ⟨(by omega : t < m0), (by omega : 0 + m0 ≤ m0), th_al_0 (by omega : m0 ≤ 128)⟩ (by show m0 ≤ 128; omega)
  have hd7 := hrw.1
  refine lv_aload_n hx hb dX0_takeLeafProof_0 rfl (lv_at hl 0 rfl) ?_
  refine va_get (D := Y.1) (ci := 0) (v := .ref y) (C := RX0) (T := TX0) (N := 3) hx hb hts inX0 hown hK hP 0 rfl rfl 2 (by decide) (hts _ tw_1_66) (fun _ h9 => h9) rfl dX0_takeLeafProof_1 ?_
  refine lv_iload_n hx hb dX0_takeLeafProof_4 rfl (lv_at hl 2 rfl) ?_
  refine lv_iload_n hx hb dX0_takeLeafProof_5 rfl (lv_at hl 3 rfl) ?_
  refine th_callV hx hb hml hown hts ⟨hK, hN⟩ hl hS (hP 2 _ rfl) rfl (rest := []) (c_X4_leadToLeaf l Y _ y a1 a2 a3 r F N T fr le fi (hP.sub (ws' := [(y, .inr (4, [.int (nI r), .ref a1, .ref a2, .ref a3, .int (nI F), .int (nI N), .int (nI T)])), (a1, .inl (Y.2 0, 12, .inl fr)), (a2, .inl (Y.2 0, 12, .inl le)), (a3, .inl (Y.2 1, 12, .inl fi))]) [2, 3, 4, 5] rfl) ((hD.sub (ws' := [(y, .inr (4, [.int (nI r), .ref a1, .ref a2, .ref a3, .int (nI F), .int (nI N), .int (nI T)])), (a1, .inl (Y.2 0, 12, .inl fr)), (a2, .inl (Y.2 0, 12, .inl le)), (a3, .inl (Y.2 1, 12, .inl fi))]) [2, 3, 4, 5] (by decide) rfl).weaken (fun _ _ _ _ => trivial)) m0 t (by omega) (by omega)) ok_X4_leadToLeaf tw_2_143 dX0_takeLeafProof_6 rfl rfl (Nat.le_of_ble_eq_true rfl) ⟨Nat.le_of_ble_eq_true rfl, Nat.le_of_ble_eq_true rfl⟩ ⟨Nat.le_of_ble_eq_true rfl, Nat.le_of_ble_eq_true rfl⟩ (fun z hz => by simp only [List.mem_cons, List.not_mem_nil, or_false] at hz ⊢; omega) (th_kv (fun H locs hp hsm hS => ?_))
  obtain ⟨fr, le, fi, hPc, hw⟩ := hp
  have hP : va_P Y.1 vwCl [(dk, .inr (0, [.int (nI cnt), .ref sm, .ref y])), (sm, .inl (Y.2 0, 12, .inl ds)), (y, .inr (4, [.int (nI (th_dL (0, m0, t))), .ref a1, .ref a2, .ref a3, .int (nI ((th_wa (0, m0, t) (th_dL (0, m0, t))).1)), .int (nI ((th_wa (0, m0, t) (th_dL (0, m0, t))).2.1)), .int (nI ((th_wa (0, m0, t) (th_dL (0, m0, t))).2.2))])), (a1, .inl (Y.2 0, 12, .inl fr)), (a2, .inl (Y.2 0, 12, .inl le)), (a3, .inl (Y.2 1, 12, .inl fi)), (v, .inr (2, [.int (nI n), .ref a, .ref b])), (a, .inl (Y.2 0, 100, .inl f)), (b, .inl (Y.2 0, 256, .inl g))] _ := (th_join (wr := [(dk, .inr (0, [.int (nI cnt), .ref sm, .ref y])), (sm, .inl (Y.2 0, 12, .inl ds)), (v, .inr (2, [.int (nI n), .ref a, .ref b])), (a, .inl (Y.2 0, 100, .inl f)), (b, .inl (Y.2 0, 256, .inl g))]) hP hD [0, 1, 6, 7, 8] [2, 3, 4, 5] rfl rfl (by decide) hsm hPc).sub [0, 1, 5, 6, 7, 8, 2, 3, 4] rfl
  have hD : va_D _ [(dk, .inr (0, [.int (nI cnt), .ref sm, .ref y])), (sm, .inl (Y.2 0, 12, .inl ds)), (y, .inr (4, [.int (nI (th_dL (0, m0, t))), .ref a1, .ref a2, .ref a3, .int (nI ((th_wa (0, m0, t) (th_dL (0, m0, t))).1)), .int (nI ((th_wa (0, m0, t) (th_dL (0, m0, t))).2.1)), .int (nI ((th_wa (0, m0, t) (th_dL (0, m0, t))).2.2))])), (a1, .inl (Y.2 0, 12, .inl fr)), (a2, .inl (Y.2 0, 12, .inl le)), (a3, .inl (Y.2 1, 12, .inl fi)), (v, .inr (2, [.int (nI n), .ref a, .ref b])), (a, .inl (Y.2 0, 100, .inl f)), (b, .inl (Y.2 0, 256, .inl g))] := th_Dsame hD rfl
  refine lv_aload_n hx hb dX0_takeLeafProof_9 rfl (lv_at hl 0 rfl) ?_
  refine lv_aload_n hx hb dX0_takeLeafProof_10 rfl (lv_at hl 1 rfl) ?_
  refine th_callV hx hb hml hown hts ⟨hK, hN⟩ hl hS (hP 0 _ rfl) rfl (rest := []) (c_X0_takeRoots l Y _ dk sm y cnt ds a1 a2 a3 (th_dL (0, m0, t)) ((th_wa (0, m0, t) (th_dL (0, m0, t))).1) ((th_wa (0, m0, t) (th_dL (0, m0, t))).2.1) ((th_wa (0, m0, t) (th_dL (0, m0, t))).2.2) fr le fi v a b n f g hP ((hD.sub (ws' := [(dk, .inr (0, [.int (nI cnt), .ref sm, .ref y])), (sm, .inl (Y.2 0, 12, .inl ds)), (y, .inr (4, [.int (nI (th_dL (0, m0, t))), .ref a1, .ref a2, .ref a3, .int (nI ((th_wa (0, m0, t) (th_dL (0, m0, t))).1)), .int (nI ((th_wa (0, m0, t) (th_dL (0, m0, t))).2.1)), .int (nI ((th_wa (0, m0, t) (th_dL (0, m0, t))).2.2))])), (a1, .inl (Y.2 0, 12, .inl fr)), (a2, .inl (Y.2 0, 12, .inl le)), (a3, .inl (Y.2 1, 12, .inl fi)), (v, .inr (2, [.int (nI n), .ref a, .ref b])), (a, .inl (Y.2 0, 100, .inl f)), (b, .inl (Y.2 0, 256, .inl g))]) [0, 1, 2, 3, 4, 5, 6, 7, 8] (by decide) rfl).weaken (fun _ _ _ _ => trivial)) (th_B (0, m0, t)) (th_L (0, m0, t)) (th_F (0, m0, t)) hw (fun i hi => ⟨(hrw.2 i hi).1, Nat.le_trans (hrw.2 i hi).2 hm0⟩) (by omega) (by omega) hB) ok_X0_takeRoots tw_2_160 dX0_takeLeafProof_11 rfl rfl (Nat.le_of_ble_eq_true rfl) ⟨Nat.le_of_ble_eq_true rfl, Nat.le_of_ble_eq_true rfl⟩ ⟨Nat.le_of_ble_eq_true rfl, Nat.le_of_ble_eq_true rfl⟩ (fun z hz => by simp only [List.mem_cons, List.not_mem_nil, or_false] at hz ⊢; omega) (th_kv (fun H locs hp hsm hS => ?_))
  obtain ⟨ds, hPc, hds⟩ := hp
  have hP : va_P Y.1 vwCl [(dk, .inr (0, [.int (nI (th_dL (0, m0, t))), .ref sm, .ref y])), (sm, .inl (Y.2 0, 12, .inl ds)), (y, .inr (4, [.int (nI (th_dL (0, m0, t))), .ref a1, .ref a2, .ref a3, .int (nI ((th_wa (0, m0, t) (th_dL (0, m0, t))).1)), .int (nI ((th_wa (0, m0, t) (th_dL (0, m0, t))).2.1)), .int (nI ((th_wa (0, m0, t) (th_dL (0, m0, t))).2.2))])), (a1, .inl (Y.2 0, 12, .inl fr)), (a2, .inl (Y.2 0, 12, .inl le)), (a3, .inl (Y.2 1, 12, .inl fi)), (v, .inr (2, [.int (nI n), .ref a, .ref b])), (a, .inl (Y.2 0, 100, .inl f)), (b, .inl (Y.2 0, 256, .inl g))] _ := hPc
  have hD : va_D _ [(dk, .inr (0, [.int (nI (th_dL (0, m0, t))), .ref sm, .ref y])), (sm, .inl (Y.2 0, 12, .inl ds)), (y, .inr (4, [.int (nI (th_dL (0, m0, t))), .ref a1, .ref a2, .ref a3, .int (nI ((th_wa (0, m0, t) (th_dL (0, m0, t))).1)), .int (nI ((th_wa (0, m0, t) (th_dL (0, m0, t))).2.1)), .int (nI ((th_wa (0, m0, t) (th_dL (0, m0, t))).2.2))])), (a1, .inl (Y.2 0, 12, .inl fr)), (a2, .inl (Y.2 0, 12, .inl le)), (a3, .inl (Y.2 1, 12, .inl fi)), (v, .inr (2, [.int (nI n), .ref a, .ref b])), (a, .inl (Y.2 0, 100, .inl f)), (b, .inl (Y.2 0, 256, .inl g))] := th_Dsame hD rfl
  refine th_vret hx hb hr hlk hQ hS dX0_takeLeafProof_14 (Nat.le_of_ble_eq_true rfl) (Nat.le_of_ble_eq_true rfl) ?_
  exact ⟨rfl, ds, ⟨_, _, _, _, fr, le, fi, hP⟩, hds⟩

set_option maxRecDepth 100000 in
set_option maxHeartbeats 4000000 in
theorem c_X0_takeGrowthProof (l : Launch) (Y : th_Y) (H0 : Heap) (dk sm y cnt : Nat) (ds : Nat → Int32) (a1 a2 a3 r F N T : Nat) (fr le fi : Nat → Int32) (v a b n : Nat) (f g : Nat → Int32) (hP : va_P Y.1 vwCl [(dk, .inr (0, [.int (nI cnt), .ref sm, .ref y])), (sm, .inl (Y.2 0, 12, .inl ds)), (y, .inr (4, [.int (nI r), .ref a1, .ref a2, .ref a3, .int (nI F), .int (nI N), .int (nI T)])), (a1, .inl (Y.2 0, 12, .inl fr)), (a2, .inl (Y.2 0, 12, .inl le)), (a3, .inl (Y.2 1, 12, .inl fi)), (v, .inr (2, [.int (nI n), .ref a, .ref b])), (a, .inl (Y.2 0, 100, .inl f)), (b, .inl (Y.2 0, 256, .inl g))] H0) (hD0 : va_D (fun _ => True) [(dk, .inr (0, [.int (nI cnt), .ref sm, .ref y])), (sm, .inl (Y.2 0, 12, .inl ds)), (y, .inr (4, [.int (nI r), .ref a1, .ref a2, .ref a3, .int (nI F), .int (nI N), .int (nI T)])), (a1, .inl (Y.2 0, 12, .inl fr)), (a2, .inl (Y.2 0, 12, .inl le)), (a3, .inl (Y.2 1, 12, .inl fi)), (v, .inr (2, [.int (nI n), .ref a, .ref b])), (a, .inl (Y.2 0, 100, .inl f)), (b, .inl (Y.2 0, 256, .inl g))]) (hn : n ≤ 100) (hB : th_BI f g n) (k0 m0 : Nat) (hk1 : 1 ≤ k0) (hk0 : k0 ≤ m0) (hm0 : m0 ≤ n) : th_M l Y yX0_takeGrowthProof cX0_takeGrowthProof 4 none (th_rm 4 0 0) [.ref dk, .ref v, .int (nI k0), .int (nI m0)] H0 (fun z => z ∈ [dk, sm, y, a1, a2, a3, v, a, b]) (fun r' H' => r' = none ∧ ∃ ds', (∃ (r1 F1 N1 T1 : Nat) (fr1 le1 fi1 : Nat → Int32), va_P Y.1 vwCl [(dk, .inr (0, [.int (nI (th_gR (0, m0, k0 - 1))), .ref sm, .ref y])), (sm, .inl (Y.2 0, 12, .inl ds')), (y, .inr (4, [.int (nI r1), .ref a1, .ref a2, .ref a3, .int (nI F1), .int (nI N1), .int (nI T1)])), (a1, .inl (Y.2 0, 12, .inl fr1)), (a2, .inl (Y.2 0, 12, .inl le1)), (a3, .inl (Y.2 1, 12, .inl fi1)), (v, .inr (2, [.int (nI n), .ref a, .ref b])), (a, .inl (Y.2 0, 100, .inl f)), (b, .inl (Y.2 0, 256, .inl g))] H') ∧ ∀ k, k < th_gR (0, m0, k0 - 1) → ds' k = th_pS f (th_gB (0, m0, k0 - 1)) (th_gL (0, m0, k0 - 1)) (th_gR (0, m0, k0 - 1)) k) := by
  refine th_M.intro (by decide) (Nat.le_of_ble_eq_true rfl) ?_
  intro p e s m args below meth c ls Q hQ C hKN hl hS
  obtain ⟨hx, hb, hr, hml, hown, hts, hlk, hnm⟩ := C
  obtain ⟨hK, hN⟩ := hKN
  have hown : s.vm.findClass RX0 = some m.cls := hown
  have hl : lv_has ls 4 [(0, .ref dk), (1, .ref v), (2, .int (nI k0)), (3, .int (nI m0))] := hl
  have hD : va_D (fun z => z ∈ [dk, sm, y, a1, a2, a3, v, a, b]) [(dk, .inr (0, [.int (nI cnt), .ref sm, .ref y])), (sm, .inl (Y.2 0, 12, .inl ds)), (y, .inr (4, [.int (nI r), .ref a1, .ref a2, .ref a3, .int (nI F), .int (nI N), .int (nI T)])), (a1, .inl (Y.2 0, 12, .inl fr)), (a2, .inl (Y.2 0, 12, .inl le)), (a3, .inl (Y.2 1, 12, .inl fi)), (v, .inr (2, [.int (nI n), .ref a, .ref b])), (a, .inl (Y.2 0, 100, .inl f)), (b, .inl (Y.2 0, 256, .inl g))] := th_mem hD0
  have hrw := th_rowsG (n := m0) (q := (0, m0, k0 - 1)) ⟨(by omega : k0 - 1 < m0), (by omega : 0 + m0 ≤ m0), th_al_0 (by omega : m0 ≤ 128)⟩ (by show m0 ≤ 128; omega)
  have hd7 := hrw.1
  refine lv_aload_n hx hb dX0_takeGrowthProof_0 rfl (lv_at hl 0 rfl) ?_
  refine va_get (D := Y.1) (ci := 0) (v := .ref y) (C := RX0) (T := TX0) (N := 3) hx hb hts inX0 hown hK hP 0 rfl rfl 2 (by decide) (hts _ tw_1_66) (fun _ h9 => h9) rfl dX0_takeGrowthProof_1 ?_
  refine lv_iload_n hx hb dX0_takeGrowthProof_4 rfl (lv_at hl 2 rfl) ?_
  refine lv_iload_n hx hb dX0_takeGrowthProof_5 rfl (lv_at hl 3 rfl) ?_
  refine th_callV hx hb hml hown hts ⟨hK, hN⟩ hl hS (hP 2 _ rfl) rfl (rest := []) (c_X4_leadToGrowth l Y _ y a1 a2 a3 r F N T fr le fi (hP.sub (ws' := [(y, .inr (4, [.int (nI r), .ref a1, .ref a2, .ref a3, .int (nI F), .int (nI N), .int (nI T)])), (a1, .inl (Y.2 0, 12, .inl fr)), (a2, .inl (Y.2 0, 12, .inl le)), (a3, .inl (Y.2 1, 12, .inl fi))]) [2, 3, 4, 5] rfl) ((hD.sub (ws' := [(y, .inr (4, [.int (nI r), .ref a1, .ref a2, .ref a3, .int (nI F), .int (nI N), .int (nI T)])), (a1, .inl (Y.2 0, 12, .inl fr)), (a2, .inl (Y.2 0, 12, .inl le)), (a3, .inl (Y.2 1, 12, .inl fi))]) [2, 3, 4, 5] (by decide) rfl).weaken (fun _ _ _ _ => trivial)) m0 k0 (by omega) (by omega) (by omega)) ok_X4_leadToGrowth tw_2_180 dX0_takeGrowthProof_6 rfl rfl (Nat.le_of_ble_eq_true rfl) ⟨Nat.le_of_ble_eq_true rfl, Nat.le_of_ble_eq_true rfl⟩ ⟨Nat.le_of_ble_eq_true rfl, Nat.le_of_ble_eq_true rfl⟩ (fun z hz => by simp only [List.mem_cons, List.not_mem_nil, or_false] at hz ⊢; omega) (th_kv (fun H locs hp hsm hS => ?_))
  obtain ⟨fr, le, fi, hPc, hw⟩ := hp
  have hP : va_P Y.1 vwCl [(dk, .inr (0, [.int (nI cnt), .ref sm, .ref y])), (sm, .inl (Y.2 0, 12, .inl ds)), (y, .inr (4, [.int (nI (th_gR (0, m0, k0 - 1))), .ref a1, .ref a2, .ref a3, .int (nI ((th_wa (0, m0, k0 - 1) (th_dG (0, m0, k0 - 1))).1)), .int (nI ((th_wa (0, m0, k0 - 1) (th_dG (0, m0, k0 - 1))).2.1)), .int (nI ((th_wa (0, m0, k0 - 1) (th_dG (0, m0, k0 - 1))).2.2))])), (a1, .inl (Y.2 0, 12, .inl fr)), (a2, .inl (Y.2 0, 12, .inl le)), (a3, .inl (Y.2 1, 12, .inl fi)), (v, .inr (2, [.int (nI n), .ref a, .ref b])), (a, .inl (Y.2 0, 100, .inl f)), (b, .inl (Y.2 0, 256, .inl g))] _ := (th_join (wr := [(dk, .inr (0, [.int (nI cnt), .ref sm, .ref y])), (sm, .inl (Y.2 0, 12, .inl ds)), (v, .inr (2, [.int (nI n), .ref a, .ref b])), (a, .inl (Y.2 0, 100, .inl f)), (b, .inl (Y.2 0, 256, .inl g))]) hP hD [0, 1, 6, 7, 8] [2, 3, 4, 5] rfl rfl (by decide) hsm hPc).sub [0, 1, 5, 6, 7, 8, 2, 3, 4] rfl
  have hD : va_D _ [(dk, .inr (0, [.int (nI cnt), .ref sm, .ref y])), (sm, .inl (Y.2 0, 12, .inl ds)), (y, .inr (4, [.int (nI (th_gR (0, m0, k0 - 1))), .ref a1, .ref a2, .ref a3, .int (nI ((th_wa (0, m0, k0 - 1) (th_dG (0, m0, k0 - 1))).1)), .int (nI ((th_wa (0, m0, k0 - 1) (th_dG (0, m0, k0 - 1))).2.1)), .int (nI ((th_wa (0, m0, k0 - 1) (th_dG (0, m0, k0 - 1))).2.2))])), (a1, .inl (Y.2 0, 12, .inl fr)), (a2, .inl (Y.2 0, 12, .inl le)), (a3, .inl (Y.2 1, 12, .inl fi)), (v, .inr (2, [.int (nI n), .ref a, .ref b])), (a, .inl (Y.2 0, 100, .inl f)), (b, .inl (Y.2 0, 256, .inl g))] := th_Dsame hD rfl
  refine lv_aload_n hx hb dX0_takeGrowthProof_9 rfl (lv_at hl 0 rfl) ?_
  refine lv_aload_n hx hb dX0_takeGrowthProof_10 rfl (lv_at hl 1 rfl) ?_
  refine th_callV hx hb hml hown hts ⟨hK, hN⟩ hl hS (hP 0 _ rfl) rfl (rest := []) (c_X0_takeRoots l Y _ dk sm y cnt ds a1 a2 a3 (th_gR (0, m0, k0 - 1)) ((th_wa (0, m0, k0 - 1) (th_dG (0, m0, k0 - 1))).1) ((th_wa (0, m0, k0 - 1) (th_dG (0, m0, k0 - 1))).2.1) ((th_wa (0, m0, k0 - 1) (th_dG (0, m0, k0 - 1))).2.2) fr le fi v a b n f g hP ((hD.sub (ws' := [(dk, .inr (0, [.int (nI cnt), .ref sm, .ref y])), (sm, .inl (Y.2 0, 12, .inl ds)), (y, .inr (4, [.int (nI (th_gR (0, m0, k0 - 1))), .ref a1, .ref a2, .ref a3, .int (nI ((th_wa (0, m0, k0 - 1) (th_dG (0, m0, k0 - 1))).1)), .int (nI ((th_wa (0, m0, k0 - 1) (th_dG (0, m0, k0 - 1))).2.1)), .int (nI ((th_wa (0, m0, k0 - 1) (th_dG (0, m0, k0 - 1))).2.2))])), (a1, .inl (Y.2 0, 12, .inl fr)), (a2, .inl (Y.2 0, 12, .inl le)), (a3, .inl (Y.2 1, 12, .inl fi)), (v, .inr (2, [.int (nI n), .ref a, .ref b])), (a, .inl (Y.2 0, 100, .inl f)), (b, .inl (Y.2 0, 256, .inl g))]) [0, 1, 2, 3, 4, 5, 6, 7, 8] (by decide) rfl).weaken (fun _ _ _ _ => trivial)) (th_gB (0, m0, k0 - 1)) (th_gL (0, m0, k0 - 1)) (th_gF (0, m0, k0 - 1)) hw (fun i hi => ⟨(hrw.2.2 i hi).1, Nat.le_trans (hrw.2.2 i hi).2 hm0⟩) (by omega) (by omega) hB) ok_X0_takeRoots tw_2_160 dX0_takeGrowthProof_11 rfl rfl (Nat.le_of_ble_eq_true rfl) ⟨Nat.le_of_ble_eq_true rfl, Nat.le_of_ble_eq_true rfl⟩ ⟨Nat.le_of_ble_eq_true rfl, Nat.le_of_ble_eq_true rfl⟩ (fun z hz => by simp only [List.mem_cons, List.not_mem_nil, or_false] at hz ⊢; omega) (th_kv (fun H locs hp hsm hS => ?_))
  obtain ⟨ds, hPc, hds⟩ := hp
  have hP : va_P Y.1 vwCl [(dk, .inr (0, [.int (nI (th_gR (0, m0, k0 - 1))), .ref sm, .ref y])), (sm, .inl (Y.2 0, 12, .inl ds)), (y, .inr (4, [.int (nI (th_gR (0, m0, k0 - 1))), .ref a1, .ref a2, .ref a3, .int (nI ((th_wa (0, m0, k0 - 1) (th_dG (0, m0, k0 - 1))).1)), .int (nI ((th_wa (0, m0, k0 - 1) (th_dG (0, m0, k0 - 1))).2.1)), .int (nI ((th_wa (0, m0, k0 - 1) (th_dG (0, m0, k0 - 1))).2.2))])), (a1, .inl (Y.2 0, 12, .inl fr)), (a2, .inl (Y.2 0, 12, .inl le)), (a3, .inl (Y.2 1, 12, .inl fi)), (v, .inr (2, [.int (nI n), .ref a, .ref b])), (a, .inl (Y.2 0, 100, .inl f)), (b, .inl (Y.2 0, 256, .inl g))] _ := hPc
  have hD : va_D _ [(dk, .inr (0, [.int (nI (th_gR (0, m0, k0 - 1))), .ref sm, .ref y])), (sm, .inl (Y.2 0, 12, .inl ds)), (y, .inr (4, [.int (nI (th_gR (0, m0, k0 - 1))), .ref a1, .ref a2, .ref a3, .int (nI ((th_wa (0, m0, k0 - 1) (th_dG (0, m0, k0 - 1))).1)), .int (nI ((th_wa (0, m0, k0 - 1) (th_dG (0, m0, k0 - 1))).2.1)), .int (nI ((th_wa (0, m0, k0 - 1) (th_dG (0, m0, k0 - 1))).2.2))])), (a1, .inl (Y.2 0, 12, .inl fr)), (a2, .inl (Y.2 0, 12, .inl le)), (a3, .inl (Y.2 1, 12, .inl fi)), (v, .inr (2, [.int (nI n), .ref a, .ref b])), (a, .inl (Y.2 0, 100, .inl f)), (b, .inl (Y.2 0, 256, .inl g))] := th_Dsame hD rfl
  refine th_vret hx hb hr hlk hQ hS dX0_takeGrowthProof_14 (Nat.le_of_ble_eq_true rfl) (Nat.le_of_ble_eq_true rfl) ?_
  exact ⟨rfl, ds, ⟨_, _, _, _, fr, le, fi, hP⟩, hds⟩

set_option maxRecDepth 100000 in
set_option maxHeartbeats 4000000 in
theorem c_X0_takeKeyProof (l : Launch) (Y : th_Y) (H0 : Heap) (dk sm y cnt : Nat) (ds : Nat → Int32) (km kva ksa : Nat) (kv ks : Nat → Int32) (hP : va_P Y.1 vwCl [(dk, .inr (0, [.int (nI cnt), .ref sm, .ref y])), (sm, .inl (Y.2 0, 12, .inl ds)), (km, .inr (1, [.ref kva, .ref ksa])), (kva, .inl (Y.2 0, 64, .inl kv)), (ksa, .inl (Y.2 0, 128, .inl ks))] H0) (hD0 : va_D (fun _ => True) [(dk, .inr (0, [.int (nI cnt), .ref sm, .ref y])), (sm, .inl (Y.2 0, 12, .inl ds)), (km, .inr (1, [.ref kva, .ref ksa])), (kva, .inl (Y.2 0, 64, .inl kv)), (ksa, .inl (Y.2 0, 128, .inl ks))]) (hM : th_MI kv ks) (key : Nat) (hk : key < 64) : th_M l Y yX0_takeKeyProof cX0_takeKeyProof 4 none (th_rm 1 0 0) [.ref dk, .ref km, .int (nI key)] H0 (fun z => z ∈ [dk, sm, km, kva, ksa]) (fun r' H' => r' = none ∧ ∃ ds', va_P Y.1 vwCl [(dk, .inr (0, [.int (nI 6), .ref sm, .ref y])), (sm, .inl (Y.2 0, 12, .inl ds')), (km, .inr (1, [.ref kva, .ref ksa])), (kva, .inl (Y.2 0, 64, .inl kv)), (ksa, .inl (Y.2 0, 128, .inl ks))] H' ∧ ∀ k, k < 6 → ds' k = th_lv kv k (key / 2 ^ k ^^^ 1)) := by
  refine th_M.intro (by decide) (Nat.le_of_ble_eq_true rfl) ?_
  intro p e s m args below meth c ls Q hQ C hKN hl hS
  obtain ⟨hx, hb, hr, hml, hown, hts, hlk, hnm⟩ := C
  obtain ⟨hK, hN⟩ := hKN
  have hown : s.vm.findClass RX0 = some m.cls := hown
  have hl : lv_has ls 4 [(0, .ref dk), (1, .ref km), (2, .int (nI key))] := hl
  have hD : va_D (fun z => z ∈ [dk, sm, km, kva, ksa]) [(dk, .inr (0, [.int (nI cnt), .ref sm, .ref y])), (sm, .inl (Y.2 0, 12, .inl ds)), (km, .inr (1, [.ref kva, .ref ksa])), (kva, .inl (Y.2 0, 64, .inl kv)), (ksa, .inl (Y.2 0, 128, .inl ks))] := th_mem hD0
  refine lv_aload_n hx hb dX0_takeKeyProof_0 rfl (lv_at hl 0 rfl) ?_
  refine lv_bipush (v := nI 6) hx hb dX0_takeKeyProof_1 (by decide) ?_
  refine va_put (D := Y.1) (ci := 0) (v := .int (nI 6)) (ty := .int) (C := RX0) (T := TX0) (N := 3) hx hb hts inX0 tyX0 tyX0_ok nmX0 hown hK hP hD hS 0 rfl rfl 0 (by decide) (hts _ tw_1_63) (fun _ h9 => h9) rfl (by decide +kernel) rfl rfl (Nat.le_of_ble_eq_true rfl) dX0_takeKeyProof_3 (fun H locs hP hD hS => ?_)
  have hP : va_P Y.1 vwCl [(dk, .inr (0, [.int (nI 6), .ref sm, .ref y])), (sm, .inl (Y.2 0, 12, .inl ds)), (km, .inr (1, [.ref kva, .ref ksa])), (kva, .inl (Y.2 0, 64, .inl kv)), (ksa, .inl (Y.2 0, 128, .inl ks))] _ := hP
  have hD : va_D _ [(dk, .inr (0, [.int (nI 6), .ref sm, .ref y])), (sm, .inl (Y.2 0, 12, .inl ds)), (km, .inr (1, [.ref kva, .ref ksa])), (kva, .inl (Y.2 0, 64, .inl kv)), (ksa, .inl (Y.2 0, 128, .inl ks))] := hD
  refine lv_iconst (v := nI 0) hx hb dX0_takeKeyProof_6 (by decide) ?_
  refine lv_istore_n (lv' := [(3, .int (nI 0)), (0, .ref dk), (1, .ref km), (2, .int (nI key))]) hx hb dX0_takeKeyProof_7 rfl hl (by decide) rfl (fun ls hl => ?_)
  have lp_1 : ∀ (n_2 : Nat) (j : Nat) (ds : Nat → Int32) (H : Heap) (locs : List Loc) (ls : Array Slot), 6 - j < n_2 → (j ≤ 6) → (∀ k, k < j → ds k = th_lv kv k (key / 2 ^ k ^^^ 1)) → va_P Y.1 vwCl [(dk, .inr (0, [.int (nI 6), .ref sm, .ref y])), (sm, .inl (Y.2 0, 12, .inl ds)), (km, .inr (1, [.ref kva, .ref ksa])), (kva, .inl (Y.2 0, 64, .inl kv)), (ksa, .inl (Y.2 0, 128, .inl ks))] H → va_D (fun z => z ∈ [dk, sm, km, kva, ksa]) [(dk, .inr (0, [.int (nI 6), .ref sm, .ref y])), (sm, .inl (Y.2 0, 12, .inl ds)), (km, .inr (1, [.ref kva, .ref ksa])), (kva, .inl (Y.2 0, 64, .inl kv)), (ksa, .inl (Y.2 0, 128, .inl ks))] → va_S (fun z => z ∈ [dk, sm, km, kva, ksa]) H0 H locs → lv_has ls 4 [(0, .ref dk), (1, .ref km), (2, .int (nI key)), (3, .int (nI j))] → W p l e (th_rm 1 0 0) s m args below meth c H locs 0 0 Q (F0 m 8 ls []) := by
    intro n_2; induction n_2 with
    | zero => intros; exfalso; omega
    | succ n_2 ih =>
      intro j ds H locs ls hmz hj hs hP hD hS hl
      refine lv_iload_n hx hb dX0_takeKeyProof_8 rfl (lv_at hl 3 rfl) ?_
      refine lv_bipush (v := nI 6) hx hb dX0_takeKeyProof_9 (by decide) ?_
      refine th_ige (tgt := 41) hx hb dX0_takeKeyProof_11 (by decide) (by omega) (by omega) (fun c_3 => ?_) (fun c_3 => ?_)
      · skip
        refine th_vret hx hb hr hlk hQ hS dX0_takeKeyProof_41 (Nat.le_of_ble_eq_true rfl) (Nat.le_of_ble_eq_true rfl) ?_
        exact ⟨rfl, ds, hP, fun k hk => hs k (by omega)⟩
      refine lv_iload_n hx hb dX0_takeKeyProof_14 rfl (lv_at hl 3 rfl) ?_
      refine lv_aload_n hx hb dX0_takeKeyProof_15 rfl (lv_at hl 0 rfl) ?_
      refine va_get (D := Y.1) (ci := 0) (v := .ref sm) (C := RX0) (T := TX0) (N := 3) hx hb hts inX0 hown hK hP 0 rfl rfl 1 (by decide) (hts _ tw_1_65) (fun _ h9 => h9) rfl dX0_takeKeyProof_16 ?_
      refine va_alen (v := nI 12) hx hb hK hP 1 0 rfl rfl rfl dX0_takeKeyProof_19 ?_
      refine th_ige (tgt := 41) hx hb dX0_takeKeyProof_20 (by decide) (by omega) (by omega) (fun c_4 => by exfalso; omega) (fun c_4 => ?_)
      refine lv_aload_n hx hb dX0_takeKeyProof_23 rfl (lv_at hl 0 rfl) ?_
      refine va_get (D := Y.1) (ci := 0) (v := .ref sm) (C := RX0) (T := TX0) (N := 3) hx hb hts inX0 hown hK hP 0 rfl rfl 1 (by decide) (hts _ tw_1_65) (fun _ h9 => h9) rfl dX0_takeKeyProof_24 ?_
      refine lv_iload_n hx hb dX0_takeKeyProof_27 rfl (lv_at hl 3 rfl) ?_
      refine lv_aload_n hx hb dX0_takeKeyProof_28 rfl (lv_at hl 1 rfl) ?_
      refine lv_iload_n hx hb dX0_takeKeyProof_29 rfl (lv_at hl 2 rfl) ?_
      refine lv_iload_n hx hb dX0_takeKeyProof_30 rfl (lv_at hl 3 rfl) ?_
      refine th_callV hx hb hml hown hts ⟨hK, hN⟩ hl hS (hP 2 _ rfl) rfl (rest := [.int (nI j), .ref sm]) (c_X1_sumBeside l Y _ km kva ksa kv ks (hP.sub (ws' := [(km, .inr (1, [.ref kva, .ref ksa])), (kva, .inl (Y.2 0, 64, .inl kv)), (ksa, .inl (Y.2 0, 128, .inl ks))]) [2, 3, 4] rfl) hM key j (by omega) (by omega)) ok_X1_sumBeside tw_2_199 dX0_takeKeyProof_31 rfl rfl (Nat.le_of_ble_eq_true rfl) ⟨Nat.le_of_ble_eq_true rfl, Nat.le_of_ble_eq_true rfl⟩ ⟨Nat.le_of_ble_eq_true rfl, Nat.le_of_ble_eq_true rfl⟩ (fun _ h => h.elim) (th_kpi (fun locs hS => ?_))
      refine th_iast hx hb hK hP hD hS 1 rfl (j := j) (by omega) (by omega) dX0_takeKeyProof_34 (fun H locs hP hD hS => ?_)
      have hP : va_P Y.1 vwCl [(dk, .inr (0, [.int (nI 6), .ref sm, .ref y])), (sm, .inl (Y.2 0, 12, .inl (upd ds j (th_lv kv j (key / 2 ^ j ^^^ 1))))), (km, .inr (1, [.ref kva, .ref ksa])), (kva, .inl (Y.2 0, 64, .inl kv)), (ksa, .inl (Y.2 0, 128, .inl ks))] _ := hP
      have hD : va_D _ [(dk, .inr (0, [.int (nI 6), .ref sm, .ref y])), (sm, .inl (Y.2 0, 12, .inl (upd ds j (th_lv kv j (key / 2 ^ j ^^^ 1))))), (km, .inr (1, [.ref kva, .ref ksa])), (kva, .inl (Y.2 0, 64, .inl kv)), (ksa, .inl (Y.2 0, 128, .inl ks))] := hD
      refine lv_iinc (v := nI (j + 1)) (lv' := [(3, .int (nI (j + 1))), (0, .ref dk), (1, .ref km), (2, .int (nI key))]) hx hb dX0_takeKeyProof_35 hl (k := 3) rfl (nI_add _ 1) (by decide) rfl (fun ls hl => ?_)
      refine lv_goto (tgt := 8) hx hb dX0_takeKeyProof_38 (by decide) ?_
      exact ih (j + 1) (upd ds j (th_lv kv j (key / 2 ^ j ^^^ 1))) _ _ _ (by omega) (by omega) (fun k hk => by by_cases z : k = j; (subst z; exact pk_us); (rw [pk_un z]; exact hs k (by omega))) hP hD hS (lv_sub hl [1, 2, 3, 0] rfl)
  exact lp_1 ((6 - (0)) + 1) (0) (ds) _ _ _ (Nat.lt_succ_self _) (by omega) (fun k hk => by omega) hP hD hS (lv_sub hl [1, 2, 3, 0] rfl)

set_option maxRecDepth 100000 in
set_option maxHeartbeats 4000000 in
theorem c_X0_provesKey (l : Launch) (Y : th_Y) (H : Heap) (dk sm y cnt : Nat) (ds : Nat → Int32) (hP : va_P Y.1 vwCl [(dk, .inr (0, [.int (nI cnt), .ref sm, .ref y])), (sm, .inl (Y.2 0, 12, .inl ds))] H) (hc : cnt ≤ 12) (key : Nat) (x0 root : Int32) (hk : key < 64) : th_P l Y yX0_provesKey cX0_provesKey 8 (some .boolean) (th_rm 2 0 0) [.ref dk, .int (nI key), .int x0, .int root] H (fun r9 => r9 = some (.int (th_b (cnt = 6 ∧ th_kf key ds (th_ks x0) 6 = root)))) := by
  refine th_M.intro (by decide) (Nat.le_of_ble_eq_true rfl) ?_
  intro p e s m args below meth c ls Q hQ C hKN hl hS
  obtain ⟨hx, hb, hr, hml, hown, hts, hlk, hnm⟩ := C
  obtain ⟨hK, hN⟩ := hKN
  have hown : s.vm.findClass RX0 = some m.cls := hown
  have hl : lv_has ls 8 [(0, .ref dk), (1, .int (nI key)), (2, .int x0), (3, .int root)] := hl
  refine lv_aload_n hx hb dX0_provesKey_0 rfl (lv_at hl 0 rfl) ?_
  refine va_get (D := Y.1) (ci := 0) (v := .int (nI cnt)) (C := RX0) (T := TX0) (N := 3) hx hb hts inX0 hown hK hP 0 rfl rfl 0 (by decide) (hts _ tw_1_63) (fun _ h9 => h9) rfl dX0_provesKey_1 ?_
  refine lv_bipush (v := nI 6) hx hb dX0_provesKey_4 (by decide) ?_
  refine th_ieq (tgt := 11) hx hb dX0_provesKey_6 (by decide) (by omega) (by omega) (fun c_1 => ?_) (fun c_1 => ?_)
  · skip
    refine lv_iload_n hx hb dX0_provesKey_11 rfl (lv_at hl 2 rfl) ?_
    refine th_callSN hx hb hml hown hts ⟨hK, hN⟩ hl hS (rest := []) (c_X5_keySum l Y _ x0) ok_X5_keySum (tn_3_42 hN) dX0_provesKey_12 rfl rfl (Nat.le_of_ble_eq_true rfl) ⟨Nat.le_of_ble_eq_true rfl, Nat.le_of_ble_eq_true rfl⟩ ⟨Nat.le_of_ble_eq_true rfl, Nat.le_of_ble_eq_true rfl⟩ (fun _ h => h.elim) (th_kpi (fun locs hS => ?_))
    refine lv_istore (lv' := [(4, .int (th_ks x0)), (0, .ref dk), (1, .int (nI key)), (2, .int x0), (3, .int root)]) hx hb dX0_provesKey_15 hl (by decide) rfl (fun ls hl => ?_)
    refine lv_iconst (v := nI 0) hx hb dX0_provesKey_17 (by decide) ?_
    refine lv_istore (lv' := [(5, .int (nI 0)), (4, .int (th_ks x0)), (0, .ref dk), (1, .int (nI key)), (2, .int x0), (3, .int root)]) hx hb dX0_provesKey_18 hl (by decide) rfl (fun ls hl => ?_)
    have lp_2 : ∀ (n_3 : Nat) (j : Nat) (x : Int32) (locs : List Loc) (ls : Array Slot), 6 - j < n_3 → (j ≤ 6) → (x = th_kf key ds (th_ks x0) j) → va_S (th_no) H H locs → lv_has ls 8 [(0, .ref dk), (1, .int (nI key)), (2, .int x0), (3, .int root), (4, .int x), (5, .int (nI j))] → W p l e (th_rm 2 0 0) s m args below meth c H locs 0 0 Q (F0 m 20 ls []) := by
      intro n_3; induction n_3 with
      | zero => intros; exfalso; omega
      | succ n_3 ih =>
        intro j x locs ls hmz hj hx9 hS hl
        have h3 : key / 2 ^ j ≤ key := Nat.div_le_self _ _
        refine lv_iload hx hb dX0_provesKey_20 (lv_at hl 5 rfl) ?_
        refine lv_bipush (v := nI 6) hx hb dX0_provesKey_22 (by decide) ?_
        refine th_ige (tgt := 82) hx hb dX0_provesKey_24 (by decide) (by omega) (by omega) (fun c_4 => ?_) (fun c_4 => ?_)
        · skip
          refine lv_iload hx hb dX0_provesKey_82 (lv_at hl 4 rfl) ?_
          refine lv_iload_n hx hb dX0_provesKey_84 rfl (lv_at hl 3 rfl) ?_
          refine lv_icmp_ne (tgt := 92) hx hb dX0_provesKey_85 (by decide) (fun c_5 => ?_) (fun c_5 => ?_)
          · skip
            refine lv_iconst (v := nI 0) hx hb dX0_provesKey_92 (by decide) ?_
            refine th_zret hx hb hr hlk hQ hS dX0_provesKey_93 (Nat.le_of_ble_eq_true rfl) (Nat.le_of_ble_eq_true rfl) (by first | exact Or.inl rfl | exact Or.inr rfl | assumption) ?_
            obtain rfl : j = 6 := by omega
            exact ⟨by rw [th_bF (fun z => c_5 (hx9.trans z.2))], rfl⟩
          refine lv_iconst (v := nI 1) hx hb dX0_provesKey_88 (by decide) ?_
          refine lv_goto (tgt := 93) hx hb dX0_provesKey_89 (by decide) ?_
          refine th_zret hx hb hr hlk hQ hS dX0_provesKey_93 (Nat.le_of_ble_eq_true rfl) (Nat.le_of_ble_eq_true rfl) (by first | exact Or.inl rfl | exact Or.inr rfl | assumption) ?_
          obtain rfl : j = 6 := by omega
          exact ⟨by rw [th_bT ⟨c_1, hx9.symm.trans c_5⟩], rfl⟩
        refine lv_aload_n hx hb dX0_provesKey_27 rfl (lv_at hl 0 rfl) ?_
        refine lv_iload hx hb dX0_provesKey_28 (lv_at hl 5 rfl) ?_
        refine th_callV hx hb hml hown hts ⟨hK, hN⟩ hl hS (hP 0 _ rfl) rfl (rest := []) (c_X0_read l Y _ dk sm y cnt ds hP j (by omega) (by omega)) ok_X0_read tw_2_229 dX0_provesKey_30 rfl rfl (Nat.le_of_ble_eq_true rfl) ⟨Nat.le_of_ble_eq_true rfl, Nat.le_of_ble_eq_true rfl⟩ ⟨Nat.le_of_ble_eq_true rfl, Nat.le_of_ble_eq_true rfl⟩ (fun _ h => h.elim) (th_kpi (fun locs hS => ?_))
        refine lv_istore (lv' := [(6, .int (ds j)), (0, .ref dk), (1, .int (nI key)), (2, .int x0), (3, .int root), (4, .int x), (5, .int (nI j))]) hx hb dX0_provesKey_33 hl (by decide) rfl (fun ls hl => ?_)
        refine lv_iload_n hx hb dX0_provesKey_35 rfl (lv_at hl 2 rfl) ?_
        refine lv_iload hx hb dX0_provesKey_36 (lv_at hl 6 rfl) ?_
        refine lv_ishr hx hb dX0_provesKey_38 ?_
        refine th_ti (show (nI key) >>> ((nI j) &&& 31) = nI (key / 2 ^ j) from pk_shrN (by omega) _ j (th_s5 j (by omega))) ?_
        refine lv_iconst (v := nI 1) hx hb dX0_provesKey_39 (by decide) ?_
        refine lv_iand hx hb dX0_provesKey_40 ?_
        refine th_ti (show (nI (key / 2 ^ j)) &&& (nI 1) = nI (key / 2 ^ j % 2) from pk_andN (by omega) 1 (by decide)) ?_
        refine lv_iconst (v := nI 1) hx hb dX0_provesKey_41 (by decide) ?_
        refine th_ine (tgt := 49) hx hb dX0_provesKey_42 (by decide) (by omega) (by omega) (fun c_6 => ?_) (fun c_6 => ?_)
        · skip
          refine lv_iconst (v := nI 0) hx hb dX0_provesKey_49 (by decide) ?_
          refine lv_istore (lv' := [(7, .int (nI 0)), (6, .int (ds j)), (0, .ref dk), (1, .int (nI key)), (2, .int x0), (3, .int root), (4, .int x), (5, .int (nI j))]) hx hb dX0_provesKey_50 hl (by decide) rfl (fun ls hl => ?_)
          refine lv_iload hx hb dX0_provesKey_52 (lv_at hl 0 rfl) ?_
          refine th_zeq (tgt := 67) hx hb dX0_provesKey_54 (by decide) (by omega) (fun c_7 => ?_) (fun c_7 => by exfalso; omega)
          refine lv_iload hx hb dX0_provesKey_67 (lv_at hl 6 rfl) ?_
          refine lv_iload hx hb dX0_provesKey_69 (lv_at hl 1 rfl) ?_
          refine th_callSN hx hb hml hown hts ⟨hK, hN⟩ hl hS (rest := []) (c_X5_mapMix l Y _ x (ds j)) ok_X5_mapMix (tn_3_46 hN) dX0_provesKey_71 rfl rfl (Nat.le_of_ble_eq_true rfl) ⟨Nat.le_of_ble_eq_true rfl, Nat.le_of_ble_eq_true rfl⟩ ⟨Nat.le_of_ble_eq_true rfl, Nat.le_of_ble_eq_true rfl⟩ (fun _ h => h.elim) (th_kpi (fun locs hS => ?_))
          refine lv_istore (lv' := [(4, .int (th_jn x (ds j))), (7, .int (nI 0)), (6, .int (ds j)), (0, .ref dk), (1, .int (nI key)), (2, .int x0), (3, .int root), (5, .int (nI j))]) hx hb dX0_provesKey_74 hl (by decide) rfl (fun ls hl => ?_)
          refine lv_iinc (v := nI (j + 1)) (lv' := [(5, .int (nI (j + 1))), (4, .int (th_jn x (ds j))), (7, .int (nI 0)), (6, .int (ds j)), (0, .ref dk), (1, .int (nI key)), (2, .int x0), (3, .int root)]) hx hb dX0_provesKey_76 hl (k := 7) rfl (nI_add _ 1) (by decide) rfl (fun ls hl => ?_)
          refine lv_goto (tgt := 20) hx hb dX0_provesKey_79 (by decide) ?_
          exact ih (j + 1) (th_jn x (ds j)) _ _ (by omega) (by omega) (by subst hx9; exact (if_neg c_6).symm) hS (lv_sub hl [4, 5, 6, 7, 1, 0] rfl)
        refine lv_iconst (v := nI 1) hx hb dX0_provesKey_45 (by decide) ?_
        refine lv_goto (tgt := 50) hx hb dX0_provesKey_46 (by decide) ?_
        refine lv_istore (lv' := [(7, .int (nI 1)), (6, .int (ds j)), (0, .ref dk), (1, .int (nI key)), (2, .int x0), (3, .int root), (4, .int x), (5, .int (nI j))]) hx hb dX0_provesKey_50 hl (by decide) rfl (fun ls hl => ?_)
        refine lv_iload hx hb dX0_provesKey_52 (lv_at hl 0 rfl) ?_
        refine th_zeq (tgt := 67) hx hb dX0_provesKey_54 (by decide) (by omega) (fun c_8 => by exfalso; omega) (fun c_8 => ?_)
        refine lv_iload hx hb dX0_provesKey_57 (lv_at hl 1 rfl) ?_
        refine lv_iload hx hb dX0_provesKey_59 (lv_at hl 6 rfl) ?_
        refine th_callSN hx hb hml hown hts ⟨hK, hN⟩ hl hS (rest := []) (c_X5_mapMix l Y _ (ds j) x) ok_X5_mapMix (tn_3_46 hN) dX0_provesKey_61 rfl rfl (Nat.le_of_ble_eq_true rfl) ⟨Nat.le_of_ble_eq_true rfl, Nat.le_of_ble_eq_true rfl⟩ ⟨Nat.le_of_ble_eq_true rfl, Nat.le_of_ble_eq_true rfl⟩ (fun _ h => h.elim) (th_kpi (fun locs hS => ?_))
        refine lv_goto (tgt := 74) hx hb dX0_provesKey_64 (by decide) ?_
        refine lv_istore (lv' := [(4, .int (th_jn (ds j) x)), (7, .int (nI 1)), (6, .int (ds j)), (0, .ref dk), (1, .int (nI key)), (2, .int x0), (3, .int root), (5, .int (nI j))]) hx hb dX0_provesKey_74 hl (by decide) rfl (fun ls hl => ?_)
        refine lv_iinc (v := nI (j + 1)) (lv' := [(5, .int (nI (j + 1))), (4, .int (th_jn (ds j) x)), (7, .int (nI 1)), (6, .int (ds j)), (0, .ref dk), (1, .int (nI key)), (2, .int x0), (3, .int root)]) hx hb dX0_provesKey_76 hl (k := 7) rfl (nI_add _ 1) (by decide) rfl (fun ls hl => ?_)
        refine lv_goto (tgt := 20) hx hb dX0_provesKey_79 (by decide) ?_
        exact ih (j + 1) (th_jn (ds j) x) _ _ (by omega) (by omega) (by subst hx9; exact (if_pos c_6).symm) hS (lv_sub hl [4, 5, 6, 7, 1, 0] rfl)
    exact lp_2 ((6 - (0)) + 1) (0) (th_ks x0) _ _ (Nat.lt_succ_self _) (by omega) (rfl) hS (lv_sub hl [2, 3, 4, 5, 1, 0] rfl)
  refine lv_iconst (v := nI 0) hx hb dX0_provesKey_9 (by decide) ?_
  refine th_zret hx hb hr hlk hQ hS dX0_provesKey_10 (Nat.le_of_ble_eq_true rfl) (Nat.le_of_ble_eq_true rfl) (by first | exact Or.inl rfl | exact Or.inr rfl | assumption) ?_
  exact ⟨by rw [th_bF (fun z => c_1 z.1)], rfl⟩

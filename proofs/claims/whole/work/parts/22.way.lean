set_option maxRecDepth 100000 in
set_option maxHeartbeats 4000000 in
theorem c_X4_begin (l : Launch) (Y : th_Y) (H0 : Heap) (y a1 a2 a3 r F N T : Nat) (fr le fi : Nat → Int32) (hP : va_P Y.1 vwCl [(y, .inr (4, [.int (nI r), .ref a1, .ref a2, .ref a3, .int (nI F), .int (nI N), .int (nI T)])), (a1, .inl (Y.2 0, 12, .inl fr)), (a2, .inl (Y.2 0, 12, .inl le)), (a3, .inl (Y.2 1, 12, .inl fi))] H0) (hD0 : va_D (fun _ => True) [(y, .inr (4, [.int (nI r), .ref a1, .ref a2, .ref a3, .int (nI F), .int (nI N), .int (nI T)])), (a1, .inl (Y.2 0, 12, .inl fr)), (a2, .inl (Y.2 0, 12, .inl le)), (a3, .inl (Y.2 1, 12, .inl fi))]) (t n : Nat) : th_M l Y yX4_begin cX4_begin 3 none (th_rm 0 0 0) [.ref y, .int (nI t), .int (nI n)] H0 (fun z => z ∈ [y, a1, a2, a3]) (fun r H' => r = none ∧ va_P Y.1 vwCl [(y, .inr (4, [.int (nI 0), .ref a1, .ref a2, .ref a3, .int (nI 0), .int (nI n), .int (nI t)])), (a1, .inl (Y.2 0, 12, .inl fr)), (a2, .inl (Y.2 0, 12, .inl le)), (a3, .inl (Y.2 1, 12, .inl fi))] H') := by
  refine th_M.intro (by decide) (Nat.le_of_ble_eq_true rfl) ?_
  intro p e s m args below meth c ls Q hQ C hKN hl hS
  obtain ⟨hx, hb, hr, hml, hown, hts, hlk, hnm⟩ := C
  obtain ⟨hK, hN⟩ := hKN
  have hown : s.vm.findClass RX4 = some m.cls := hown
  have hl : lv_has ls 3 [(0, .ref y), (1, .int (nI t)), (2, .int (nI n))] := hl
  have hD : va_D (fun z => z ∈ [y, a1, a2, a3]) [(y, .inr (4, [.int (nI r), .ref a1, .ref a2, .ref a3, .int (nI F), .int (nI N), .int (nI T)])), (a1, .inl (Y.2 0, 12, .inl fr)), (a2, .inl (Y.2 0, 12, .inl le)), (a3, .inl (Y.2 1, 12, .inl fi))] := th_mem hD0
  refine lv_aload_n hx hb dX4_begin_0 rfl (lv_at hl 0 rfl) ?_
  refine lv_iconst (v := nI 0) hx hb dX4_begin_1 (by decide) ?_
  refine va_put (D := Y.1) (ci := 4) (v := .int (nI 0)) (ty := .int) (C := RX4) (T := TX4) (N := 7) hx hb hts inX4 tyX4 tyX4_ok nmX4 hown hK hP hD hS 0 rfl rfl 0 (by decide) (hts _ tw_1_39) (fun _ h9 => h9) rfl (by decide +kernel) rfl rfl (Nat.le_of_ble_eq_true rfl) dX4_begin_2 (fun H locs hP hD hS => ?_)
  have hP : va_P Y.1 vwCl [(y, .inr (4, [.int (nI 0), .ref a1, .ref a2, .ref a3, .int (nI F), .int (nI N), .int (nI T)])), (a1, .inl (Y.2 0, 12, .inl fr)), (a2, .inl (Y.2 0, 12, .inl le)), (a3, .inl (Y.2 1, 12, .inl fi))] _ := hP
  have hD : va_D _ [(y, .inr (4, [.int (nI 0), .ref a1, .ref a2, .ref a3, .int (nI F), .int (nI N), .int (nI T)])), (a1, .inl (Y.2 0, 12, .inl fr)), (a2, .inl (Y.2 0, 12, .inl le)), (a3, .inl (Y.2 1, 12, .inl fi))] := hD
  refine lv_aload_n hx hb dX4_begin_5 rfl (lv_at hl 0 rfl) ?_
  refine lv_iconst (v := nI 0) hx hb dX4_begin_6 (by decide) ?_
  refine va_put (D := Y.1) (ci := 4) (v := .int (nI 0)) (ty := .int) (C := RX4) (T := TX4) (N := 7) hx hb hts inX4 tyX4 tyX4_ok nmX4 hown hK hP hD hS 0 rfl rfl 4 (by decide) (hts _ tw_1_43) (fun _ h9 => h9) rfl (by decide +kernel) rfl rfl (Nat.le_of_ble_eq_true rfl) dX4_begin_7 (fun H locs hP hD hS => ?_)
  have hP : va_P Y.1 vwCl [(y, .inr (4, [.int (nI 0), .ref a1, .ref a2, .ref a3, .int (nI 0), .int (nI N), .int (nI T)])), (a1, .inl (Y.2 0, 12, .inl fr)), (a2, .inl (Y.2 0, 12, .inl le)), (a3, .inl (Y.2 1, 12, .inl fi))] _ := hP
  have hD : va_D _ [(y, .inr (4, [.int (nI 0), .ref a1, .ref a2, .ref a3, .int (nI 0), .int (nI N), .int (nI T)])), (a1, .inl (Y.2 0, 12, .inl fr)), (a2, .inl (Y.2 0, 12, .inl le)), (a3, .inl (Y.2 1, 12, .inl fi))] := hD
  refine lv_aload_n hx hb dX4_begin_10 rfl (lv_at hl 0 rfl) ?_
  refine lv_iload_n hx hb dX4_begin_11 rfl (lv_at hl 2 rfl) ?_
  refine va_put (D := Y.1) (ci := 4) (v := .int (nI n)) (ty := .int) (C := RX4) (T := TX4) (N := 7) hx hb hts inX4 tyX4 tyX4_ok nmX4 hown hK hP hD hS 0 rfl rfl 5 (by decide) (hts _ tw_1_44) (fun _ h9 => h9) rfl (by decide +kernel) rfl rfl (Nat.le_of_ble_eq_true rfl) dX4_begin_12 (fun H locs hP hD hS => ?_)
  have hP : va_P Y.1 vwCl [(y, .inr (4, [.int (nI 0), .ref a1, .ref a2, .ref a3, .int (nI 0), .int (nI n), .int (nI T)])), (a1, .inl (Y.2 0, 12, .inl fr)), (a2, .inl (Y.2 0, 12, .inl le)), (a3, .inl (Y.2 1, 12, .inl fi))] _ := hP
  have hD : va_D _ [(y, .inr (4, [.int (nI 0), .ref a1, .ref a2, .ref a3, .int (nI 0), .int (nI n), .int (nI T)])), (a1, .inl (Y.2 0, 12, .inl fr)), (a2, .inl (Y.2 0, 12, .inl le)), (a3, .inl (Y.2 1, 12, .inl fi))] := hD
  refine lv_aload_n hx hb dX4_begin_15 rfl (lv_at hl 0 rfl) ?_
  refine lv_iload_n hx hb dX4_begin_16 rfl (lv_at hl 1 rfl) ?_
  refine va_put (D := Y.1) (ci := 4) (v := .int (nI t)) (ty := .int) (C := RX4) (T := TX4) (N := 7) hx hb hts inX4 tyX4 tyX4_ok nmX4 hown hK hP hD hS 0 rfl rfl 6 (by decide) (hts _ tw_1_45) (fun _ h9 => h9) rfl (by decide +kernel) rfl rfl (Nat.le_of_ble_eq_true rfl) dX4_begin_17 (fun H locs hP hD hS => ?_)
  have hP : va_P Y.1 vwCl [(y, .inr (4, [.int (nI 0), .ref a1, .ref a2, .ref a3, .int (nI 0), .int (nI n), .int (nI t)])), (a1, .inl (Y.2 0, 12, .inl fr)), (a2, .inl (Y.2 0, 12, .inl le)), (a3, .inl (Y.2 1, 12, .inl fi))] _ := hP
  have hD : va_D _ [(y, .inr (4, [.int (nI 0), .ref a1, .ref a2, .ref a3, .int (nI 0), .int (nI n), .int (nI t)])), (a1, .inl (Y.2 0, 12, .inl fr)), (a2, .inl (Y.2 0, 12, .inl le)), (a3, .inl (Y.2 1, 12, .inl fi))] := hD
  refine th_vret hx hb hr hlk hQ hS dX4_begin_20 (Nat.le_of_ble_eq_true rfl) (Nat.le_of_ble_eq_true rfl) ?_
  exact ⟨rfl, hP⟩

set_option maxRecDepth 100000 in
set_option maxHeartbeats 4000000 in
theorem c_X4_leaveBeside (l : Launch) (Y : th_Y) (H0 : Heap) (y a1 a2 a3 r F N T : Nat) (fr le fi : Nat → Int32) (hP : va_P Y.1 vwCl [(y, .inr (4, [.int (nI r), .ref a1, .ref a2, .ref a3, .int (nI F), .int (nI N), .int (nI T)])), (a1, .inl (Y.2 0, 12, .inl fr)), (a2, .inl (Y.2 0, 12, .inl le)), (a3, .inl (Y.2 1, 12, .inl fi))] H0) (hD0 : va_D (fun _ => True) [(y, .inr (4, [.int (nI r), .ref a1, .ref a2, .ref a3, .int (nI F), .int (nI N), .int (nI T)])), (a1, .inl (Y.2 0, 12, .inl fr)), (a2, .inl (Y.2 0, 12, .inl le)), (a3, .inl (Y.2 1, 12, .inl fi))]) (bf bn : Nat) (x : Int32) (hx : x = 0 ∨ x = 1) (hr12 : r < 12) : th_M l Y yX4_leaveBeside cX4_leaveBeside 4 none (th_rm 0 0 0) [.ref y, .int (nI bf), .int (nI bn), .int x] H0 (fun z => z ∈ [y, a1, a2, a3]) (fun r' H' => r' = none ∧ va_P Y.1 vwCl [(y, .inr (4, [.int (nI (r + 1)), .ref a1, .ref a2, .ref a3, .int (nI F), .int (nI N), .int (nI T)])), (a1, .inl (Y.2 0, 12, .inl (upd fr r (nI bf)))), (a2, .inl (Y.2 0, 12, .inl (upd le r (nI bn)))), (a3, .inl (Y.2 1, 12, .inl (upd fi r x)))] H') := by
  refine th_M.intro (by decide) (Nat.le_of_ble_eq_true rfl) ?_
  intro p e s m args below meth c ls Q hQ C hKN hl hS
  obtain ⟨hx, hb, hr, hml, hown, hts, hlk, hnm⟩ := C
  obtain ⟨hK, hN⟩ := hKN
  have hown : s.vm.findClass RX4 = some m.cls := hown
  have hl : lv_has ls 4 [(0, .ref y), (1, .int (nI bf)), (2, .int (nI bn)), (3, .int x)] := hl
  have hD : va_D (fun z => z ∈ [y, a1, a2, a3]) [(y, .inr (4, [.int (nI r), .ref a1, .ref a2, .ref a3, .int (nI F), .int (nI N), .int (nI T)])), (a1, .inl (Y.2 0, 12, .inl fr)), (a2, .inl (Y.2 0, 12, .inl le)), (a3, .inl (Y.2 1, 12, .inl fi))] := th_mem hD0
  refine lv_aload_n hx hb dX4_leaveBeside_0 rfl (lv_at hl 0 rfl) ?_
  refine va_get (D := Y.1) (ci := 4) (v := .int (nI r)) (C := RX4) (T := TX4) (N := 7) hx hb hts inX4 hown hK hP 0 rfl rfl 0 (by decide) (hts _ tw_1_39) (fun _ h9 => h9) rfl dX4_leaveBeside_1 ?_
  refine th_zlt (tgt := 16) hx hb dX4_leaveBeside_4 (by decide) (by omega) ?_
  refine lv_aload_n hx hb dX4_leaveBeside_7 rfl (lv_at hl 0 rfl) ?_
  refine va_get (D := Y.1) (ci := 4) (v := .int (nI r)) (C := RX4) (T := TX4) (N := 7) hx hb hts inX4 hown hK hP 0 rfl rfl 0 (by decide) (hts _ tw_1_39) (fun _ h9 => h9) rfl dX4_leaveBeside_8 ?_
  refine lv_bipush (v := nI 12) hx hb dX4_leaveBeside_11 (by decide) ?_
  refine th_ilt (tgt := 17) hx hb dX4_leaveBeside_13 (by decide) (by omega) (by omega) (fun c_1 => ?_) (fun c_1 => by exfalso; omega)
  refine lv_aload_n hx hb dX4_leaveBeside_17 rfl (lv_at hl 0 rfl) ?_
  refine va_get (D := Y.1) (ci := 4) (v := .ref a1) (C := RX4) (T := TX4) (N := 7) hx hb hts inX4 hown hK hP 0 rfl rfl 1 (by decide) (hts _ tw_1_40) (fun _ h9 => h9) rfl dX4_leaveBeside_18 ?_
  refine lv_aload_n hx hb dX4_leaveBeside_21 rfl (lv_at hl 0 rfl) ?_
  refine va_get (D := Y.1) (ci := 4) (v := .int (nI r)) (C := RX4) (T := TX4) (N := 7) hx hb hts inX4 hown hK hP 0 rfl rfl 0 (by decide) (hts _ tw_1_39) (fun _ h9 => h9) rfl dX4_leaveBeside_22 ?_
  refine lv_iload_n hx hb dX4_leaveBeside_25 rfl (lv_at hl 1 rfl) ?_
  refine th_iast hx hb hK hP hD hS 1 rfl (j := r) (by omega) (by omega) dX4_leaveBeside_26 (fun H locs hP hD hS => ?_)
  have hP : va_P Y.1 vwCl [(y, .inr (4, [.int (nI r), .ref a1, .ref a2, .ref a3, .int (nI F), .int (nI N), .int (nI T)])), (a1, .inl (Y.2 0, 12, .inl (upd fr r (nI bf)))), (a2, .inl (Y.2 0, 12, .inl le)), (a3, .inl (Y.2 1, 12, .inl fi))] _ := hP
  have hD : va_D _ [(y, .inr (4, [.int (nI r), .ref a1, .ref a2, .ref a3, .int (nI F), .int (nI N), .int (nI T)])), (a1, .inl (Y.2 0, 12, .inl (upd fr r (nI bf)))), (a2, .inl (Y.2 0, 12, .inl le)), (a3, .inl (Y.2 1, 12, .inl fi))] := hD
  refine lv_aload_n hx hb dX4_leaveBeside_27 rfl (lv_at hl 0 rfl) ?_
  refine va_get (D := Y.1) (ci := 4) (v := .ref a2) (C := RX4) (T := TX4) (N := 7) hx hb hts inX4 hown hK hP 0 rfl rfl 2 (by decide) (hts _ tw_1_41) (fun _ h9 => h9) rfl dX4_leaveBeside_28 ?_
  refine lv_aload_n hx hb dX4_leaveBeside_31 rfl (lv_at hl 0 rfl) ?_
  refine va_get (D := Y.1) (ci := 4) (v := .int (nI r)) (C := RX4) (T := TX4) (N := 7) hx hb hts inX4 hown hK hP 0 rfl rfl 0 (by decide) (hts _ tw_1_39) (fun _ h9 => h9) rfl dX4_leaveBeside_32 ?_
  refine lv_iload_n hx hb dX4_leaveBeside_35 rfl (lv_at hl 2 rfl) ?_
  refine th_iast hx hb hK hP hD hS 2 rfl (j := r) (by omega) (by omega) dX4_leaveBeside_36 (fun H locs hP hD hS => ?_)
  have hP : va_P Y.1 vwCl [(y, .inr (4, [.int (nI r), .ref a1, .ref a2, .ref a3, .int (nI F), .int (nI N), .int (nI T)])), (a1, .inl (Y.2 0, 12, .inl (upd fr r (nI bf)))), (a2, .inl (Y.2 0, 12, .inl (upd le r (nI bn)))), (a3, .inl (Y.2 1, 12, .inl fi))] _ := hP
  have hD : va_D _ [(y, .inr (4, [.int (nI r), .ref a1, .ref a2, .ref a3, .int (nI F), .int (nI N), .int (nI T)])), (a1, .inl (Y.2 0, 12, .inl (upd fr r (nI bf)))), (a2, .inl (Y.2 0, 12, .inl (upd le r (nI bn)))), (a3, .inl (Y.2 1, 12, .inl fi))] := hD
  refine lv_aload_n hx hb dX4_leaveBeside_37 rfl (lv_at hl 0 rfl) ?_
  refine va_get (D := Y.1) (ci := 4) (v := .ref a3) (C := RX4) (T := TX4) (N := 7) hx hb hts inX4 hown hK hP 0 rfl rfl 3 (by decide) (hts _ tw_1_42) (fun _ h9 => h9) rfl dX4_leaveBeside_38 ?_
  refine lv_aload_n hx hb dX4_leaveBeside_41 rfl (lv_at hl 0 rfl) ?_
  refine va_get (D := Y.1) (ci := 4) (v := .int (nI r)) (C := RX4) (T := TX4) (N := 7) hx hb hts inX4 hown hK hP 0 rfl rfl 0 (by decide) (hts _ tw_1_39) (fun _ h9 => h9) rfl dX4_leaveBeside_42 ?_
  refine lv_iload_n hx hb dX4_leaveBeside_45 rfl (lv_at hl 3 rfl) ?_
  refine th_zast hx hb hK hP hD hS 3 rfl (j := r) (by omega) (by omega) (by first | exact Or.inl rfl | exact Or.inr rfl | assumption) dX4_leaveBeside_46 (fun H locs hP hD hS => ?_)
  have hP : va_P Y.1 vwCl [(y, .inr (4, [.int (nI r), .ref a1, .ref a2, .ref a3, .int (nI F), .int (nI N), .int (nI T)])), (a1, .inl (Y.2 0, 12, .inl (upd fr r (nI bf)))), (a2, .inl (Y.2 0, 12, .inl (upd le r (nI bn)))), (a3, .inl (Y.2 1, 12, .inl (upd fi r x)))] _ := hP
  have hD : va_D _ [(y, .inr (4, [.int (nI r), .ref a1, .ref a2, .ref a3, .int (nI F), .int (nI N), .int (nI T)])), (a1, .inl (Y.2 0, 12, .inl (upd fr r (nI bf)))), (a2, .inl (Y.2 0, 12, .inl (upd le r (nI bn)))), (a3, .inl (Y.2 1, 12, .inl (upd fi r x)))] := hD
  refine lv_aload_n hx hb dX4_leaveBeside_47 rfl (lv_at hl 0 rfl) ?_
  refine lv_dup hx hb dX4_leaveBeside_48 rfl ?_
  refine va_get (D := Y.1) (ci := 4) (v := .int (nI r)) (C := RX4) (T := TX4) (N := 7) hx hb hts inX4 hown hK hP 0 rfl rfl 0 (by decide) (hts _ tw_1_39) (fun _ h9 => h9) rfl dX4_leaveBeside_49 ?_
  refine lv_iconst (v := nI 1) hx hb dX4_leaveBeside_52 (by decide) ?_
  refine lv_iadd hx hb dX4_leaveBeside_53 ?_
  refine th_ti (nI_add _ _) ?_
  refine va_put (D := Y.1) (ci := 4) (v := .int (nI (r + 1))) (ty := .int) (C := RX4) (T := TX4) (N := 7) hx hb hts inX4 tyX4 tyX4_ok nmX4 hown hK hP hD hS 0 rfl rfl 0 (by decide) (hts _ tw_1_39) (fun _ h9 => h9) rfl (by decide +kernel) rfl rfl (Nat.le_of_ble_eq_true rfl) dX4_leaveBeside_54 (fun H locs hP hD hS => ?_)
  have hP : va_P Y.1 vwCl [(y, .inr (4, [.int (nI (r + 1)), .ref a1, .ref a2, .ref a3, .int (nI F), .int (nI N), .int (nI T)])), (a1, .inl (Y.2 0, 12, .inl (upd fr r (nI bf)))), (a2, .inl (Y.2 0, 12, .inl (upd le r (nI bn)))), (a3, .inl (Y.2 1, 12, .inl (upd fi r x)))] _ := hP
  have hD : va_D _ [(y, .inr (4, [.int (nI (r + 1)), .ref a1, .ref a2, .ref a3, .int (nI F), .int (nI N), .int (nI T)])), (a1, .inl (Y.2 0, 12, .inl (upd fr r (nI bf)))), (a2, .inl (Y.2 0, 12, .inl (upd le r (nI bn)))), (a3, .inl (Y.2 1, 12, .inl (upd fi r x)))] := hD
  refine th_vret hx hb hr hlk hQ hS dX4_leaveBeside_57 (Nat.le_of_ble_eq_true rfl) (Nat.le_of_ble_eq_true rfl) ?_
  exact ⟨rfl, hP⟩

set_option maxRecDepth 100000 in
set_option maxHeartbeats 4000000 in
theorem c_X4_goDown (l : Launch) (Y : th_Y) (H0 : Heap) (y a1 a2 a3 r F N T : Nat) (fr le fi : Nat → Int32) (hP : va_P Y.1 vwCl [(y, .inr (4, [.int (nI r), .ref a1, .ref a2, .ref a3, .int (nI F), .int (nI N), .int (nI T)])), (a1, .inl (Y.2 0, 12, .inl fr)), (a2, .inl (Y.2 0, 12, .inl le)), (a3, .inl (Y.2 1, 12, .inl fi))] H0) (hD0 : va_D (fun _ => True) [(y, .inr (4, [.int (nI r), .ref a1, .ref a2, .ref a3, .int (nI F), .int (nI N), .int (nI T)])), (a1, .inl (Y.2 0, 12, .inl fr)), (a2, .inl (Y.2 0, 12, .inl le)), (a3, .inl (Y.2 1, 12, .inl fi))]) (h2 : 2 ≤ N) (h128 : N ≤ 128) (hT : T < N) (hF : F + N ≤ 200) (hr12 : r < 12) : th_M l Y yX4_goDown cX4_goDown 2 none (th_rm 1 0 0) [.ref y] H0 (fun z => z ∈ [y, a1, a2, a3]) (fun r' H' => r' = none ∧ va_P Y.1 vwCl [(y, .inr (4, [.int (nI (r + 1)), .ref a1, .ref a2, .ref a3, .int (nI ((th_nx (F, N, T)).1)), .int (nI ((th_nx (F, N, T)).2.1)), .int (nI ((th_nx (F, N, T)).2.2))])), (a1, .inl (Y.2 0, 12, .inl (upd fr r (nI (th_bf (F, N, T)))))), (a2, .inl (Y.2 0, 12, .inl (upd le r (nI (th_bn (F, N, T)))))), (a3, .inl (Y.2 1, 12, .inl (upd fi r (th_fi (F, N, T)))))] H') := by
  refine th_M.intro (by decide) (Nat.le_of_ble_eq_true rfl) ?_
  intro p e s m args below meth c ls Q hQ C hKN hl hS
  obtain ⟨hx, hb, hr, hml, hown, hts, hlk, hnm⟩ := C
  obtain ⟨hK, hN⟩ := hKN
  have hown : s.vm.findClass RX4 = some m.cls := hown
  have hl : lv_has ls 2 [(0, .ref y)] := hl
  have hD : va_D (fun z => z ∈ [y, a1, a2, a3]) [(y, .inr (4, [.int (nI r), .ref a1, .ref a2, .ref a3, .int (nI F), .int (nI N), .int (nI T)])), (a1, .inl (Y.2 0, 12, .inl fr)), (a2, .inl (Y.2 0, 12, .inl le)), (a3, .inl (Y.2 1, 12, .inl fi))] := th_mem hD0
  refine lv_aload_n hx hb dX4_goDown_0 rfl (lv_at hl 0 rfl) ?_
  refine va_get (D := Y.1) (ci := 4) (v := .int (nI N)) (C := RX4) (T := TX4) (N := 7) hx hb hts inX4 hown hK hP 0 rfl rfl 5 (by decide) (hts _ tw_1_44) (fun _ h9 => h9) rfl dX4_goDown_1 ?_
  refine th_callS hx hb hml hown hts ⟨hK, hN⟩ hl hS (rest := []) (c_X2_greatestPowerBelow l Y _ N (by omega) (by omega)) ok_X2_greatestPowerBelow tw_2_155 dX4_goDown_4 rfl rfl (Nat.le_of_ble_eq_true rfl) ⟨Nat.le_of_ble_eq_true rfl, Nat.le_of_ble_eq_true rfl⟩ ⟨Nat.le_of_ble_eq_true rfl, Nat.le_of_ble_eq_true rfl⟩ (fun _ h => h.elim) (th_kpi (fun locs hS => ?_))
  refine lv_istore_n (lv' := [(1, .int (nI (th_sp N))), (0, .ref y)]) hx hb dX4_goDown_7 rfl hl (by decide) rfl (fun ls hl => ?_)
  have s1 := th_sp_lt h2
  have s2 := th_sp_pos N
  refine lv_aload_n hx hb dX4_goDown_8 rfl (lv_at hl 1 rfl) ?_
  refine va_get (D := Y.1) (ci := 4) (v := .int (nI T)) (C := RX4) (T := TX4) (N := 7) hx hb hts inX4 hown hK hP 0 rfl rfl 6 (by decide) (hts _ tw_1_45) (fun _ h9 => h9) rfl dX4_goDown_9 ?_
  refine lv_iload_n hx hb dX4_goDown_12 rfl (lv_at hl 0 rfl) ?_
  refine th_ige (tgt := 41) hx hb dX4_goDown_13 (by decide) (by omega) (by omega) (fun c_1 => ?_) (fun c_1 => ?_)
  · skip
    refine lv_aload_n hx hb dX4_goDown_41 rfl (lv_at hl 1 rfl) ?_
    refine lv_aload_n hx hb dX4_goDown_42 rfl (lv_at hl 1 rfl) ?_
    refine va_get (D := Y.1) (ci := 4) (v := .int (nI F)) (C := RX4) (T := TX4) (N := 7) hx hb hts inX4 hown hK hP 0 rfl rfl 4 (by decide) (hts _ tw_1_43) (fun _ h9 => h9) rfl dX4_goDown_43 ?_
    refine lv_iload_n hx hb dX4_goDown_46 rfl (lv_at hl 0 rfl) ?_
    refine lv_iconst (v := nI 1) hx hb dX4_goDown_47 (by decide) ?_
    refine th_callV hx hb hml hown hts ⟨hK, hN⟩ hl hS (hP 0 _ rfl) rfl (rest := []) (c_X4_leaveBeside l Y _ y a1 a2 a3 r F N T fr le fi hP ((hD.sub (ws' := [(y, .inr (4, [.int (nI r), .ref a1, .ref a2, .ref a3, .int (nI F), .int (nI N), .int (nI T)])), (a1, .inl (Y.2 0, 12, .inl fr)), (a2, .inl (Y.2 0, 12, .inl le)), (a3, .inl (Y.2 1, 12, .inl fi))]) [0, 1, 2, 3] (by decide) rfl).weaken (fun _ _ _ _ => trivial)) F (th_sp N) (nI 1) (by first | exact Or.inl rfl | exact Or.inr rfl) (by omega)) ok_X4_leaveBeside tw_2_156 dX4_goDown_48 rfl rfl (Nat.le_of_ble_eq_true rfl) ⟨Nat.le_of_ble_eq_true rfl, Nat.le_of_ble_eq_true rfl⟩ ⟨Nat.le_of_ble_eq_true rfl, Nat.le_of_ble_eq_true rfl⟩ (fun z hz => by simp only [List.mem_cons, List.not_mem_nil, or_false] at hz ⊢; omega) (th_kv (fun H locs hp hsm hS => ?_))
    have hPc := hp
    have hP : va_P Y.1 vwCl [(y, .inr (4, [.int (nI (r + 1)), .ref a1, .ref a2, .ref a3, .int (nI F), .int (nI N), .int (nI T)])), (a1, .inl (Y.2 0, 12, .inl (upd fr r (nI F)))), (a2, .inl (Y.2 0, 12, .inl (upd le r (nI (th_sp N))))), (a3, .inl (Y.2 1, 12, .inl (upd fi r (nI 1))))] _ := hPc
    have hD : va_D _ [(y, .inr (4, [.int (nI (r + 1)), .ref a1, .ref a2, .ref a3, .int (nI F), .int (nI N), .int (nI T)])), (a1, .inl (Y.2 0, 12, .inl (upd fr r (nI F)))), (a2, .inl (Y.2 0, 12, .inl (upd le r (nI (th_sp N))))), (a3, .inl (Y.2 1, 12, .inl (upd fi r (nI 1))))] := th_Dsame hD rfl
    refine lv_aload_n hx hb dX4_goDown_51 rfl (lv_at hl 1 rfl) ?_
    refine lv_dup hx hb dX4_goDown_52 rfl ?_
    refine va_get (D := Y.1) (ci := 4) (v := .int (nI F)) (C := RX4) (T := TX4) (N := 7) hx hb hts inX4 hown hK hP 0 rfl rfl 4 (by decide) (hts _ tw_1_43) (fun _ h9 => h9) rfl dX4_goDown_53 ?_
    refine lv_iload_n hx hb dX4_goDown_56 rfl (lv_at hl 0 rfl) ?_
    refine lv_iadd hx hb dX4_goDown_57 ?_
    refine th_ti (nI_add _ _) ?_
    refine va_put (D := Y.1) (ci := 4) (v := .int (nI (F + (th_sp N)))) (ty := .int) (C := RX4) (T := TX4) (N := 7) hx hb hts inX4 tyX4 tyX4_ok nmX4 hown hK hP hD hS 0 rfl rfl 4 (by decide) (hts _ tw_1_43) (fun _ h9 => h9) rfl (by decide +kernel) rfl rfl (Nat.le_of_ble_eq_true rfl) dX4_goDown_58 (fun H locs hP hD hS => ?_)
    have hP : va_P Y.1 vwCl [(y, .inr (4, [.int (nI (r + 1)), .ref a1, .ref a2, .ref a3, .int (nI (F + (th_sp N))), .int (nI N), .int (nI T)])), (a1, .inl (Y.2 0, 12, .inl (upd fr r (nI F)))), (a2, .inl (Y.2 0, 12, .inl (upd le r (nI (th_sp N))))), (a3, .inl (Y.2 1, 12, .inl (upd fi r (nI 1))))] _ := hP
    have hD : va_D _ [(y, .inr (4, [.int (nI (r + 1)), .ref a1, .ref a2, .ref a3, .int (nI (F + (th_sp N))), .int (nI N), .int (nI T)])), (a1, .inl (Y.2 0, 12, .inl (upd fr r (nI F)))), (a2, .inl (Y.2 0, 12, .inl (upd le r (nI (th_sp N))))), (a3, .inl (Y.2 1, 12, .inl (upd fi r (nI 1))))] := hD
    refine lv_aload_n hx hb dX4_goDown_61 rfl (lv_at hl 1 rfl) ?_
    refine lv_dup hx hb dX4_goDown_62 rfl ?_
    refine va_get (D := Y.1) (ci := 4) (v := .int (nI N)) (C := RX4) (T := TX4) (N := 7) hx hb hts inX4 hown hK hP 0 rfl rfl 5 (by decide) (hts _ tw_1_44) (fun _ h9 => h9) rfl dX4_goDown_63 ?_
    refine lv_iload_n hx hb dX4_goDown_66 rfl (lv_at hl 0 rfl) ?_
    refine lv_isub hx hb dX4_goDown_67 ?_
    refine th_ti (pk_sub (by omega)) ?_
    refine va_put (D := Y.1) (ci := 4) (v := .int (nI (N - (th_sp N)))) (ty := .int) (C := RX4) (T := TX4) (N := 7) hx hb hts inX4 tyX4 tyX4_ok nmX4 hown hK hP hD hS 0 rfl rfl 5 (by decide) (hts _ tw_1_44) (fun _ h9 => h9) rfl (by decide +kernel) rfl rfl (Nat.le_of_ble_eq_true rfl) dX4_goDown_68 (fun H locs hP hD hS => ?_)
    have hP : va_P Y.1 vwCl [(y, .inr (4, [.int (nI (r + 1)), .ref a1, .ref a2, .ref a3, .int (nI (F + (th_sp N))), .int (nI (N - (th_sp N))), .int (nI T)])), (a1, .inl (Y.2 0, 12, .inl (upd fr r (nI F)))), (a2, .inl (Y.2 0, 12, .inl (upd le r (nI (th_sp N))))), (a3, .inl (Y.2 1, 12, .inl (upd fi r (nI 1))))] _ := hP
    have hD : va_D _ [(y, .inr (4, [.int (nI (r + 1)), .ref a1, .ref a2, .ref a3, .int (nI (F + (th_sp N))), .int (nI (N - (th_sp N))), .int (nI T)])), (a1, .inl (Y.2 0, 12, .inl (upd fr r (nI F)))), (a2, .inl (Y.2 0, 12, .inl (upd le r (nI (th_sp N))))), (a3, .inl (Y.2 1, 12, .inl (upd fi r (nI 1))))] := hD
    refine lv_aload_n hx hb dX4_goDown_71 rfl (lv_at hl 1 rfl) ?_
    refine lv_dup hx hb dX4_goDown_72 rfl ?_
    refine va_get (D := Y.1) (ci := 4) (v := .int (nI T)) (C := RX4) (T := TX4) (N := 7) hx hb hts inX4 hown hK hP 0 rfl rfl 6 (by decide) (hts _ tw_1_45) (fun _ h9 => h9) rfl dX4_goDown_73 ?_
    refine lv_iload_n hx hb dX4_goDown_76 rfl (lv_at hl 0 rfl) ?_
    refine lv_isub hx hb dX4_goDown_77 ?_
    refine th_ti (pk_sub (by omega)) ?_
    refine va_put (D := Y.1) (ci := 4) (v := .int (nI (T - (th_sp N)))) (ty := .int) (C := RX4) (T := TX4) (N := 7) hx hb hts inX4 tyX4 tyX4_ok nmX4 hown hK hP hD hS 0 rfl rfl 6 (by decide) (hts _ tw_1_45) (fun _ h9 => h9) rfl (by decide +kernel) rfl rfl (Nat.le_of_ble_eq_true rfl) dX4_goDown_78 (fun H locs hP hD hS => ?_)
    have hP : va_P Y.1 vwCl [(y, .inr (4, [.int (nI (r + 1)), .ref a1, .ref a2, .ref a3, .int (nI (F + (th_sp N))), .int (nI (N - (th_sp N))), .int (nI (T - (th_sp N)))])), (a1, .inl (Y.2 0, 12, .inl (upd fr r (nI F)))), (a2, .inl (Y.2 0, 12, .inl (upd le r (nI (th_sp N))))), (a3, .inl (Y.2 1, 12, .inl (upd fi r (nI 1))))] _ := hP
    have hD : va_D _ [(y, .inr (4, [.int (nI (r + 1)), .ref a1, .ref a2, .ref a3, .int (nI (F + (th_sp N))), .int (nI (N - (th_sp N))), .int (nI (T - (th_sp N)))])), (a1, .inl (Y.2 0, 12, .inl (upd fr r (nI F)))), (a2, .inl (Y.2 0, 12, .inl (upd le r (nI (th_sp N))))), (a3, .inl (Y.2 1, 12, .inl (upd fi r (nI 1))))] := hD
    refine th_vret hx hb hr hlk hQ hS dX4_goDown_81 (Nat.le_of_ble_eq_true rfl) (Nat.le_of_ble_eq_true rfl) ?_
    refine ⟨rfl, ?_⟩
    unfold th_nx th_bf th_bn th_fi
    dsimp only
    simp only [if_neg (Nat.not_lt.mpr c_1)]
    exact hP
  refine lv_aload_n hx hb dX4_goDown_16 rfl (lv_at hl 1 rfl) ?_
  refine lv_aload_n hx hb dX4_goDown_17 rfl (lv_at hl 1 rfl) ?_
  refine va_get (D := Y.1) (ci := 4) (v := .int (nI F)) (C := RX4) (T := TX4) (N := 7) hx hb hts inX4 hown hK hP 0 rfl rfl 4 (by decide) (hts _ tw_1_43) (fun _ h9 => h9) rfl dX4_goDown_18 ?_
  refine lv_iload_n hx hb dX4_goDown_21 rfl (lv_at hl 0 rfl) ?_
  refine lv_iadd hx hb dX4_goDown_22 ?_
  refine th_ti (nI_add _ _) ?_
  refine lv_aload_n hx hb dX4_goDown_23 rfl (lv_at hl 1 rfl) ?_
  refine va_get (D := Y.1) (ci := 4) (v := .int (nI N)) (C := RX4) (T := TX4) (N := 7) hx hb hts inX4 hown hK hP 0 rfl rfl 5 (by decide) (hts _ tw_1_44) (fun _ h9 => h9) rfl dX4_goDown_24 ?_
  refine lv_iload_n hx hb dX4_goDown_27 rfl (lv_at hl 0 rfl) ?_
  refine lv_isub hx hb dX4_goDown_28 ?_
  refine th_ti (pk_sub (by omega)) ?_
  refine lv_iconst (v := nI 0) hx hb dX4_goDown_29 (by decide) ?_
  refine th_callV hx hb hml hown hts ⟨hK, hN⟩ hl hS (hP 0 _ rfl) rfl (rest := []) (c_X4_leaveBeside l Y _ y a1 a2 a3 r F N T fr le fi hP ((hD.sub (ws' := [(y, .inr (4, [.int (nI r), .ref a1, .ref a2, .ref a3, .int (nI F), .int (nI N), .int (nI T)])), (a1, .inl (Y.2 0, 12, .inl fr)), (a2, .inl (Y.2 0, 12, .inl le)), (a3, .inl (Y.2 1, 12, .inl fi))]) [0, 1, 2, 3] (by decide) rfl).weaken (fun _ _ _ _ => trivial)) (F + (th_sp N)) (N - (th_sp N)) (nI 0) (by first | exact Or.inl rfl | exact Or.inr rfl) (by omega)) ok_X4_leaveBeside tw_2_156 dX4_goDown_30 rfl rfl (Nat.le_of_ble_eq_true rfl) ⟨Nat.le_of_ble_eq_true rfl, Nat.le_of_ble_eq_true rfl⟩ ⟨Nat.le_of_ble_eq_true rfl, Nat.le_of_ble_eq_true rfl⟩ (fun z hz => by simp only [List.mem_cons, List.not_mem_nil, or_false] at hz ⊢; omega) (th_kv (fun H locs hp hsm hS => ?_))
  have hPc := hp
  have hP : va_P Y.1 vwCl [(y, .inr (4, [.int (nI (r + 1)), .ref a1, .ref a2, .ref a3, .int (nI F), .int (nI N), .int (nI T)])), (a1, .inl (Y.2 0, 12, .inl (upd fr r (nI (F + (th_sp N)))))), (a2, .inl (Y.2 0, 12, .inl (upd le r (nI (N - (th_sp N)))))), (a3, .inl (Y.2 1, 12, .inl (upd fi r (nI 0))))] _ := hPc
  have hD : va_D _ [(y, .inr (4, [.int (nI (r + 1)), .ref a1, .ref a2, .ref a3, .int (nI F), .int (nI N), .int (nI T)])), (a1, .inl (Y.2 0, 12, .inl (upd fr r (nI (F + (th_sp N)))))), (a2, .inl (Y.2 0, 12, .inl (upd le r (nI (N - (th_sp N)))))), (a3, .inl (Y.2 1, 12, .inl (upd fi r (nI 0))))] := th_Dsame hD rfl
  refine lv_aload_n hx hb dX4_goDown_33 rfl (lv_at hl 1 rfl) ?_
  refine lv_iload_n hx hb dX4_goDown_34 rfl (lv_at hl 0 rfl) ?_
  refine va_put (D := Y.1) (ci := 4) (v := .int (nI (th_sp N))) (ty := .int) (C := RX4) (T := TX4) (N := 7) hx hb hts inX4 tyX4 tyX4_ok nmX4 hown hK hP hD hS 0 rfl rfl 5 (by decide) (hts _ tw_1_44) (fun _ h9 => h9) rfl (by decide +kernel) rfl rfl (Nat.le_of_ble_eq_true rfl) dX4_goDown_35 (fun H locs hP hD hS => ?_)
  have hP : va_P Y.1 vwCl [(y, .inr (4, [.int (nI (r + 1)), .ref a1, .ref a2, .ref a3, .int (nI F), .int (nI (th_sp N)), .int (nI T)])), (a1, .inl (Y.2 0, 12, .inl (upd fr r (nI (F + (th_sp N)))))), (a2, .inl (Y.2 0, 12, .inl (upd le r (nI (N - (th_sp N)))))), (a3, .inl (Y.2 1, 12, .inl (upd fi r (nI 0))))] _ := hP
  have hD : va_D _ [(y, .inr (4, [.int (nI (r + 1)), .ref a1, .ref a2, .ref a3, .int (nI F), .int (nI (th_sp N)), .int (nI T)])), (a1, .inl (Y.2 0, 12, .inl (upd fr r (nI (F + (th_sp N)))))), (a2, .inl (Y.2 0, 12, .inl (upd le r (nI (N - (th_sp N)))))), (a3, .inl (Y.2 1, 12, .inl (upd fi r (nI 0))))] := hD
  refine lv_goto (tgt := 81) hx hb dX4_goDown_38 (by decide) ?_
  refine th_vret hx hb hr hlk hQ hS dX4_goDown_81 (Nat.le_of_ble_eq_true rfl) (Nat.le_of_ble_eq_true rfl) ?_
  refine ⟨rfl, ?_⟩
  unfold th_nx th_bf th_bn th_fi
  dsimp only
  simp only [if_pos c_1]
  exact hP

set_option maxRecDepth 100000 in
set_option maxHeartbeats 4000000 in
theorem c_X4_endsInTrust (l : Launch) (Y : th_Y) (H : Heap) (y a1 a2 a3 r F N T : Nat) (fr le fi : Nat → Int32) (hP : va_P Y.1 vwCl [(y, .inr (4, [.int (nI r), .ref a1, .ref a2, .ref a3, .int (nI F), .int (nI N), .int (nI T)])), (a1, .inl (Y.2 0, 12, .inl fr)), (a2, .inl (Y.2 0, 12, .inl le)), (a3, .inl (Y.2 1, 12, .inl fi))] H) (hF : F < 200) : th_P l Y yX4_endsInTrust cX4_endsInTrust 1 (some .boolean) (th_rm 0 0 0) [.ref y] H (fun r9 => r9 = some (.int (if F = 0 then nI 1 else nI 0))) := by
  refine th_M.intro (by decide) (Nat.le_of_ble_eq_true rfl) ?_
  intro p e s m args below meth c ls Q hQ C hKN hl hS
  obtain ⟨hx, hb, hr, hml, hown, hts, hlk, hnm⟩ := C
  obtain ⟨hK, hN⟩ := hKN
  have hown : s.vm.findClass RX4 = some m.cls := hown
  have hl : lv_has ls 1 [(0, .ref y)] := hl
  refine lv_aload_n hx hb dX4_endsInTrust_0 rfl (lv_at hl 0 rfl) ?_
  refine va_get (D := Y.1) (ci := 4) (v := .int (nI F)) (C := RX4) (T := TX4) (N := 7) hx hb hts inX4 hown hK hP 0 rfl rfl 4 (by decide) (hts _ tw_1_43) (fun _ h9 => h9) rfl dX4_endsInTrust_1 ?_
  refine th_zne (tgt := 11) hx hb dX4_endsInTrust_4 (by decide) (by omega) (fun c_1 => ?_) (fun c_1 => ?_)
  · skip
    refine lv_iconst (v := nI 0) hx hb dX4_endsInTrust_11 (by decide) ?_
    refine th_zret hx hb hr hlk hQ hS dX4_endsInTrust_12 (Nat.le_of_ble_eq_true rfl) (Nat.le_of_ble_eq_true rfl) (by first | exact Or.inl rfl | exact Or.inr rfl | assumption) ?_
    exact ⟨by rw [if_neg c_1], rfl⟩
  refine lv_iconst (v := nI 1) hx hb dX4_endsInTrust_7 (by decide) ?_
  refine lv_goto (tgt := 12) hx hb dX4_endsInTrust_8 (by decide) ?_
  refine th_zret hx hb hr hlk hQ hS dX4_endsInTrust_12 (Nat.le_of_ble_eq_true rfl) (Nat.le_of_ble_eq_true rfl) (by first | exact Or.inl rfl | exact Or.inr rfl | assumption) ?_
  exact ⟨by rw [if_pos c_1], rfl⟩

set_option maxRecDepth 100000 in
set_option maxHeartbeats 4000000 in
theorem c_X4_leadToLeaf (l : Launch) (Y : th_Y) (H0 : Heap) (y a1 a2 a3 r F N T : Nat) (fr le fi : Nat → Int32) (hP : va_P Y.1 vwCl [(y, .inr (4, [.int (nI r), .ref a1, .ref a2, .ref a3, .int (nI F), .int (nI N), .int (nI T)])), (a1, .inl (Y.2 0, 12, .inl fr)), (a2, .inl (Y.2 0, 12, .inl le)), (a3, .inl (Y.2 1, 12, .inl fi))] H0) (hD0 : va_D (fun _ => True) [(y, .inr (4, [.int (nI r), .ref a1, .ref a2, .ref a3, .int (nI F), .int (nI N), .int (nI T)])), (a1, .inl (Y.2 0, 12, .inl fr)), (a2, .inl (Y.2 0, 12, .inl le)), (a3, .inl (Y.2 1, 12, .inl fi))]) (n t : Nat) (hn : n ≤ 100) (ht : t < n) : th_M l Y yX4_leadToLeaf cX4_leadToLeaf 4 none (th_rm 2 0 0) [.ref y, .int (nI t), .int (nI n)] H0 (fun z => z ∈ [y, a1, a2, a3]) (fun r' H' => r' = none ∧ ∃ fr' le' fi', va_P Y.1 vwCl [(y, .inr (4, [.int (nI (th_dL (0, n, t))), .ref a1, .ref a2, .ref a3, .int (nI ((th_wa (0, n, t) (th_dL (0, n, t))).1)), .int (nI ((th_wa (0, n, t) (th_dL (0, n, t))).2.1)), .int (nI ((th_wa (0, n, t) (th_dL (0, n, t))).2.2))])), (a1, .inl (Y.2 0, 12, .inl fr')), (a2, .inl (Y.2 0, 12, .inl le')), (a3, .inl (Y.2 1, 12, .inl fi'))] H' ∧ th_RW fr' le' fi' (fun i => th_bf (th_wa (0, n, t) i)) (fun i => th_bn (th_wa (0, n, t) i)) (fun i => th_fi (th_wa (0, n, t) i)) (th_dL (0, n, t))) := by
  refine th_M.intro (by decide) (Nat.le_of_ble_eq_true rfl) ?_
  intro p e s m args below meth c ls Q hQ C hKN hl hS
  obtain ⟨hx, hb, hr, hml, hown, hts, hlk, hnm⟩ := C
  obtain ⟨hK, hN⟩ := hKN
  have hown : s.vm.findClass RX4 = some m.cls := hown
  have hl : lv_has ls 4 [(0, .ref y), (1, .int (nI t)), (2, .int (nI n))] := hl
  have hD : va_D (fun z => z ∈ [y, a1, a2, a3]) [(y, .inr (4, [.int (nI r), .ref a1, .ref a2, .ref a3, .int (nI F), .int (nI N), .int (nI T)])), (a1, .inl (Y.2 0, 12, .inl fr)), (a2, .inl (Y.2 0, 12, .inl le)), (a3, .inl (Y.2 1, 12, .inl fi))] := th_mem hD0
  have hin : th_in3 n (0, n, t) := ⟨(by omega : t < n), (by omega : 0 + n ≤ n), th_al_0 (by omega : n ≤ 128)⟩
  obtain ⟨q0, hq0⟩ : ∃ z : th_q3, z = (0, n, t) := ⟨_, rfl⟩
  rw [← hq0] at hin
  have hq128 : q0.2.1 ≤ 128 := by rw [hq0]; show n ≤ 128; omega
  refine lv_aload_n hx hb dX4_leadToLeaf_0 rfl (lv_at hl 0 rfl) ?_
  refine lv_iload_n hx hb dX4_leadToLeaf_1 rfl (lv_at hl 1 rfl) ?_
  refine lv_iload_n hx hb dX4_leadToLeaf_2 rfl (lv_at hl 2 rfl) ?_
  refine th_callV hx hb hml hown hts ⟨hK, hN⟩ hl hS (hP 0 _ rfl) rfl (rest := []) (c_X4_begin l Y _ y a1 a2 a3 r F N T fr le fi hP ((hD.sub (ws' := [(y, .inr (4, [.int (nI r), .ref a1, .ref a2, .ref a3, .int (nI F), .int (nI N), .int (nI T)])), (a1, .inl (Y.2 0, 12, .inl fr)), (a2, .inl (Y.2 0, 12, .inl le)), (a3, .inl (Y.2 1, 12, .inl fi))]) [0, 1, 2, 3] (by decide) rfl).weaken (fun _ _ _ _ => trivial)) t n) ok_X4_begin tw_2_147 dX4_leadToLeaf_3 rfl rfl (Nat.le_of_ble_eq_true rfl) ⟨Nat.le_of_ble_eq_true rfl, Nat.le_of_ble_eq_true rfl⟩ ⟨Nat.le_of_ble_eq_true rfl, Nat.le_of_ble_eq_true rfl⟩ (fun z hz => by simp only [List.mem_cons, List.not_mem_nil, or_false] at hz ⊢; omega) (th_kv (fun H locs hp hsm hS => ?_))
  have hPc := hp
  have hP : va_P Y.1 vwCl [(y, .inr (4, [.int (nI 0), .ref a1, .ref a2, .ref a3, .int (nI 0), .int (nI n), .int (nI t)])), (a1, .inl (Y.2 0, 12, .inl fr)), (a2, .inl (Y.2 0, 12, .inl le)), (a3, .inl (Y.2 1, 12, .inl fi))] _ := hPc
  have hD : va_D _ [(y, .inr (4, [.int (nI 0), .ref a1, .ref a2, .ref a3, .int (nI 0), .int (nI n), .int (nI t)])), (a1, .inl (Y.2 0, 12, .inl fr)), (a2, .inl (Y.2 0, 12, .inl le)), (a3, .inl (Y.2 1, 12, .inl fi))] := th_Dsame hD rfl
  have e1 : (th_wa q0 0).1 = 0 := by rw [hq0]; rfl
  have e2 : (th_wa q0 0).2.1 = n := by rw [hq0]; rfl
  have e3 : (th_wa q0 0).2.2 = t := by rw [hq0]; rfl
  have hP : va_P Y.1 vwCl [(y, .inr (4, [.int (nI 0), .ref a1, .ref a2, .ref a3, .int (nI ((th_wa q0 0).1)), .int (nI ((th_wa q0 0).2.1)), .int (nI ((th_wa q0 0).2.2))])), (a1, .inl (Y.2 0, 12, .inl fr)), (a2, .inl (Y.2 0, 12, .inl le)), (a3, .inl (Y.2 1, 12, .inl fi))] H := by rw [e1, e2, e3]; exact hP
  have hD : va_D _ [(y, .inr (4, [.int (nI 0), .ref a1, .ref a2, .ref a3, .int (nI ((th_wa q0 0).1)), .int (nI ((th_wa q0 0).2.1)), .int (nI ((th_wa q0 0).2.2))])), (a1, .inl (Y.2 0, 12, .inl fr)), (a2, .inl (Y.2 0, 12, .inl le)), (a3, .inl (Y.2 1, 12, .inl fi))] := th_Dsame hD rfl
  refine lv_iconst (v := nI 0) hx hb dX4_leadToLeaf_6 (by decide) ?_
  refine lv_istore_n (lv' := [(3, .int (nI 0)), (0, .ref y), (1, .int (nI t)), (2, .int (nI n))]) hx hb dX4_leadToLeaf_7 rfl hl (by decide) rfl (fun ls hl => ?_)
  have lp_1 : ∀ (n_2 : Nat) (i : Nat) (fr : Nat → Int32) (le : Nat → Int32) (fi : Nat → Int32) (H : Heap) (locs : List Loc) (ls : Array Slot), 7 - i < n_2 → (i ≤ 7) → (∀ j, j < i → th_sL (th_wa q0 j) = false) → (th_RW fr le fi (fun i => th_bf (th_wa q0 i)) (fun i => th_bn (th_wa q0 i)) (fun i => th_fi (th_wa q0 i)) i) → va_P Y.1 vwCl [(y, .inr (4, [.int (nI i), .ref a1, .ref a2, .ref a3, .int (nI ((th_wa q0 i).1)), .int (nI ((th_wa q0 i).2.1)), .int (nI ((th_wa q0 i).2.2))])), (a1, .inl (Y.2 0, 12, .inl fr)), (a2, .inl (Y.2 0, 12, .inl le)), (a3, .inl (Y.2 1, 12, .inl fi))] H → va_D (fun z => z ∈ [y, a1, a2, a3]) [(y, .inr (4, [.int (nI i), .ref a1, .ref a2, .ref a3, .int (nI ((th_wa q0 i).1)), .int (nI ((th_wa q0 i).2.1)), .int (nI ((th_wa q0 i).2.2))])), (a1, .inl (Y.2 0, 12, .inl fr)), (a2, .inl (Y.2 0, 12, .inl le)), (a3, .inl (Y.2 1, 12, .inl fi))] → va_S (fun z => z ∈ [y, a1, a2, a3]) H0 H locs → lv_has ls 4 [(0, .ref y), (1, .int (nI t)), (2, .int (nI n)), (3, .int (nI i))] → W p l e (th_rm 2 0 0) s m args below meth c H locs 0 0 Q (F0 m 8 ls []) := by
    intro n_2; induction n_2 with
    | zero => intros; exfalso; omega
    | succ n_2 ih =>
      intro i fr le fi H locs ls hmz hi hj hw hP hD hS hl
      obtain ⟨k1, k2, k3, k4⟩ := th_stop hin hq128 th_sL2 hi hj
      have k5 := k1.1
      have k6 := k1.2.1
      have k7 : (th_wa q0 i).2.1 ≤ 128 := Nat.le_trans k2 (Nat.le_trans (Nat.pow_le_pow_right (n := 2) (by decide) (show 7 - i ≤ 7 by omega)) (by decide))
      refine lv_iload_n hx hb dX4_leadToLeaf_8 rfl (lv_at hl 3 rfl) ?_
      refine lv_bipush (v := nI 12) hx hb dX4_leadToLeaf_9 (by decide) ?_
      refine th_ige (tgt := 32) hx hb dX4_leadToLeaf_11 (by decide) (by omega) (by omega) (fun c_3 => by exfalso; omega) (fun c_3 => ?_)
      refine lv_aload_n hx hb dX4_leadToLeaf_14 rfl (lv_at hl 0 rfl) ?_
      refine va_get (D := Y.1) (ci := 4) (v := .int (nI ((th_wa q0 i).2.1))) (C := RX4) (T := TX4) (N := 7) hx hb hts inX4 hown hK hP 0 rfl rfl 5 (by decide) (hts _ tw_1_44) (fun _ h9 => h9) rfl dX4_leadToLeaf_15 ?_
      refine lv_iconst (v := nI 1) hx hb dX4_leadToLeaf_18 (by decide) ?_
      refine th_ile (tgt := 32) hx hb dX4_leadToLeaf_19 (by decide) (by omega) (by omega) (fun c_4 => ?_) (fun c_4 => ?_)
      · skip
        have hd : th_dL q0 = i := th_dF_eq th_sL 8 i q0 (by omega) (decide_eq_true (by omega)) hj
        refine th_vret hx hb hr hlk hQ hS dX4_leadToLeaf_32 (Nat.le_of_ble_eq_true rfl) (Nat.le_of_ble_eq_true rfl) ?_
        subst hq0
        exact ⟨rfl, fr, le, fi, by rw [hd]; exact hP, by rw [hd]; exact hw⟩
      have hstop : th_sL (th_wa q0 i) = false := decide_eq_false (by omega)
      obtain ⟨k8, k9⟩ := k4 hstop
      refine lv_aload_n hx hb dX4_leadToLeaf_22 rfl (lv_at hl 0 rfl) ?_
      refine th_callV hx hb hml hown hts ⟨hK, hN⟩ hl hS (hP 0 _ rfl) rfl (rest := []) (c_X4_goDown l Y _ y a1 a2 a3 i ((th_wa q0 i).1) ((th_wa q0 i).2.1) ((th_wa q0 i).2.2) fr le fi hP ((hD.sub (ws' := [(y, .inr (4, [.int (nI i), .ref a1, .ref a2, .ref a3, .int (nI ((th_wa q0 i).1)), .int (nI ((th_wa q0 i).2.1)), .int (nI ((th_wa q0 i).2.2))])), (a1, .inl (Y.2 0, 12, .inl fr)), (a2, .inl (Y.2 0, 12, .inl le)), (a3, .inl (Y.2 1, 12, .inl fi))]) [0, 1, 2, 3] (by decide) rfl).weaken (fun _ _ _ _ => trivial)) (by omega) (by omega) (by omega) (by omega) (by omega)) ok_X4_goDown tw_2_151 dX4_leadToLeaf_23 rfl rfl (Nat.le_of_ble_eq_true rfl) ⟨Nat.le_of_ble_eq_true rfl, Nat.le_of_ble_eq_true rfl⟩ ⟨Nat.le_of_ble_eq_true rfl, Nat.le_of_ble_eq_true rfl⟩ (fun z hz => by simp only [List.mem_cons, List.not_mem_nil, or_false] at hz ⊢; omega) (th_kv (fun H locs hp hsm hS => ?_))
      have hPc := hp
      have hP : va_P Y.1 vwCl [(y, .inr (4, [.int (nI (i + 1)), .ref a1, .ref a2, .ref a3, .int (nI ((th_nx ((th_wa q0 i).1, (th_wa q0 i).2.1, (th_wa q0 i).2.2)).1)), .int (nI ((th_nx ((th_wa q0 i).1, (th_wa q0 i).2.1, (th_wa q0 i).2.2)).2.1)), .int (nI ((th_nx ((th_wa q0 i).1, (th_wa q0 i).2.1, (th_wa q0 i).2.2)).2.2))])), (a1, .inl (Y.2 0, 12, .inl (upd fr i (nI (th_bf ((th_wa q0 i).1, (th_wa q0 i).2.1, (th_wa q0 i).2.2)))))), (a2, .inl (Y.2 0, 12, .inl (upd le i (nI (th_bn ((th_wa q0 i).1, (th_wa q0 i).2.1, (th_wa q0 i).2.2)))))), (a3, .inl (Y.2 1, 12, .inl (upd fi i (th_fi ((th_wa q0 i).1, (th_wa q0 i).2.1, (th_wa q0 i).2.2)))))] _ := hPc
      have hD : va_D _ [(y, .inr (4, [.int (nI (i + 1)), .ref a1, .ref a2, .ref a3, .int (nI ((th_nx ((th_wa q0 i).1, (th_wa q0 i).2.1, (th_wa q0 i).2.2)).1)), .int (nI ((th_nx ((th_wa q0 i).1, (th_wa q0 i).2.1, (th_wa q0 i).2.2)).2.1)), .int (nI ((th_nx ((th_wa q0 i).1, (th_wa q0 i).2.1, (th_wa q0 i).2.2)).2.2))])), (a1, .inl (Y.2 0, 12, .inl (upd fr i (nI (th_bf ((th_wa q0 i).1, (th_wa q0 i).2.1, (th_wa q0 i).2.2)))))), (a2, .inl (Y.2 0, 12, .inl (upd le i (nI (th_bn ((th_wa q0 i).1, (th_wa q0 i).2.1, (th_wa q0 i).2.2)))))), (a3, .inl (Y.2 1, 12, .inl (upd fi i (th_fi ((th_wa q0 i).1, (th_wa q0 i).2.1, (th_wa q0 i).2.2)))))] := th_Dsame hD rfl
      refine lv_iinc (v := nI (i + 1)) (lv' := [(3, .int (nI (i + 1))), (0, .ref y), (1, .int (nI t)), (2, .int (nI n))]) hx hb dX4_leadToLeaf_26 hl (k := 3) rfl (nI_add _ 1) (by decide) rfl (fun ls hl => ?_)
      refine lv_goto (tgt := 8) hx hb dX4_leadToLeaf_29 (by decide) ?_
      exact ih (i + 1) (upd fr i (nI (th_bf (th_wa q0 i)))) (upd le i (nI (th_bn (th_wa q0 i)))) (upd fi i (th_fi (th_wa q0 i))) _ _ _ (by omega) (by omega) (lt_s hj hstop) (th_RW_s hw rfl rfl rfl) hP hD hS (lv_sub hl [1, 2, 3, 0] rfl)
  exact lp_1 ((7 - (0)) + 1) (0) (fr) (le) (fi) _ _ _ (Nat.lt_succ_self _) (by omega) (fun j hj => by omega) (th_RW_0) hP hD hS (lv_sub hl [1, 2, 3, 0] rfl)

set_option maxRecDepth 100000 in
set_option maxHeartbeats 4000000 in
theorem c_X4_leadToGrowth (l : Launch) (Y : th_Y) (H0 : Heap) (y a1 a2 a3 r F N T : Nat) (fr le fi : Nat → Int32) (hP : va_P Y.1 vwCl [(y, .inr (4, [.int (nI r), .ref a1, .ref a2, .ref a3, .int (nI F), .int (nI N), .int (nI T)])), (a1, .inl (Y.2 0, 12, .inl fr)), (a2, .inl (Y.2 0, 12, .inl le)), (a3, .inl (Y.2 1, 12, .inl fi))] H0) (hD0 : va_D (fun _ => True) [(y, .inr (4, [.int (nI r), .ref a1, .ref a2, .ref a3, .int (nI F), .int (nI N), .int (nI T)])), (a1, .inl (Y.2 0, 12, .inl fr)), (a2, .inl (Y.2 0, 12, .inl le)), (a3, .inl (Y.2 1, 12, .inl fi))]) (n m0 : Nat) (hn : n ≤ 100) (hm1 : 1 ≤ m0) (hm : m0 ≤ n) : th_M l Y yX4_leadToGrowth cX4_leadToGrowth 4 none (th_rm 2 0 0) [.ref y, .int (nI m0), .int (nI n)] H0 (fun z => z ∈ [y, a1, a2, a3]) (fun r' H' => r' = none ∧ ∃ fr' le' fi', va_P Y.1 vwCl [(y, .inr (4, [.int (nI (th_gR (0, n, m0 - 1))), .ref a1, .ref a2, .ref a3, .int (nI ((th_wa (0, n, m0 - 1) (th_dG (0, n, m0 - 1))).1)), .int (nI ((th_wa (0, n, m0 - 1) (th_dG (0, n, m0 - 1))).2.1)), .int (nI ((th_wa (0, n, m0 - 1) (th_dG (0, n, m0 - 1))).2.2))])), (a1, .inl (Y.2 0, 12, .inl fr')), (a2, .inl (Y.2 0, 12, .inl le')), (a3, .inl (Y.2 1, 12, .inl fi'))] H' ∧ th_RW fr' le' fi' (th_gB (0, n, m0 - 1)) (th_gL (0, n, m0 - 1)) (th_gF (0, n, m0 - 1)) (th_gR (0, n, m0 - 1))) := by
  refine th_M.intro (by decide) (Nat.le_of_ble_eq_true rfl) ?_
  intro p e s m args below meth c ls Q hQ C hKN hl hS
  obtain ⟨hx, hb, hr, hml, hown, hts, hlk, hnm⟩ := C
  obtain ⟨hK, hN⟩ := hKN
  have hown : s.vm.findClass RX4 = some m.cls := hown
  have hl : lv_has ls 4 [(0, .ref y), (1, .int (nI m0)), (2, .int (nI n))] := hl
  have hD : va_D (fun z => z ∈ [y, a1, a2, a3]) [(y, .inr (4, [.int (nI r), .ref a1, .ref a2, .ref a3, .int (nI F), .int (nI N), .int (nI T)])), (a1, .inl (Y.2 0, 12, .inl fr)), (a2, .inl (Y.2 0, 12, .inl le)), (a3, .inl (Y.2 1, 12, .inl fi))] := th_mem hD0
  have hin : th_in3 n (0, n, m0 - 1) := ⟨(by omega : m0 - 1 < n), (by omega : 0 + n ≤ n), th_al_0 (by omega : n ≤ 128)⟩
  obtain ⟨q0, hq0⟩ : ∃ z : th_q3, z = (0, n, m0 - 1) := ⟨_, rfl⟩
  rw [← hq0] at hin
  have hq128 : q0.2.1 ≤ 128 := by rw [hq0]; show n ≤ 128; omega
  refine lv_aload_n hx hb dX4_leadToGrowth_0 rfl (lv_at hl 0 rfl) ?_
  refine lv_iload_n hx hb dX4_leadToGrowth_1 rfl (lv_at hl 1 rfl) ?_
  refine lv_iconst (v := nI 1) hx hb dX4_leadToGrowth_2 (by decide) ?_
  refine lv_isub hx hb dX4_leadToGrowth_3 ?_
  refine th_ti (pk_sub (by omega)) ?_
  refine lv_iload_n hx hb dX4_leadToGrowth_4 rfl (lv_at hl 2 rfl) ?_
  refine th_callV hx hb hml hown hts ⟨hK, hN⟩ hl hS (hP 0 _ rfl) rfl (rest := []) (c_X4_begin l Y _ y a1 a2 a3 r F N T fr le fi hP ((hD.sub (ws' := [(y, .inr (4, [.int (nI r), .ref a1, .ref a2, .ref a3, .int (nI F), .int (nI N), .int (nI T)])), (a1, .inl (Y.2 0, 12, .inl fr)), (a2, .inl (Y.2 0, 12, .inl le)), (a3, .inl (Y.2 1, 12, .inl fi))]) [0, 1, 2, 3] (by decide) rfl).weaken (fun _ _ _ _ => trivial)) (m0 - 1) n) ok_X4_begin tw_2_147 dX4_leadToGrowth_5 rfl rfl (Nat.le_of_ble_eq_true rfl) ⟨Nat.le_of_ble_eq_true rfl, Nat.le_of_ble_eq_true rfl⟩ ⟨Nat.le_of_ble_eq_true rfl, Nat.le_of_ble_eq_true rfl⟩ (fun z hz => by simp only [List.mem_cons, List.not_mem_nil, or_false] at hz ⊢; omega) (th_kv (fun H locs hp hsm hS => ?_))
  have hPc := hp
  have hP : va_P Y.1 vwCl [(y, .inr (4, [.int (nI 0), .ref a1, .ref a2, .ref a3, .int (nI 0), .int (nI n), .int (nI (m0 - 1))])), (a1, .inl (Y.2 0, 12, .inl fr)), (a2, .inl (Y.2 0, 12, .inl le)), (a3, .inl (Y.2 1, 12, .inl fi))] _ := hPc
  have hD : va_D _ [(y, .inr (4, [.int (nI 0), .ref a1, .ref a2, .ref a3, .int (nI 0), .int (nI n), .int (nI (m0 - 1))])), (a1, .inl (Y.2 0, 12, .inl fr)), (a2, .inl (Y.2 0, 12, .inl le)), (a3, .inl (Y.2 1, 12, .inl fi))] := th_Dsame hD rfl
  have e1 : (th_wa q0 0).1 = 0 := by rw [hq0]; rfl
  have e2 : (th_wa q0 0).2.1 = n := by rw [hq0]; rfl
  have e3 : (th_wa q0 0).2.2 = m0 - 1 := by rw [hq0]; rfl
  have hP : va_P Y.1 vwCl [(y, .inr (4, [.int (nI 0), .ref a1, .ref a2, .ref a3, .int (nI ((th_wa q0 0).1)), .int (nI ((th_wa q0 0).2.1)), .int (nI ((th_wa q0 0).2.2))])), (a1, .inl (Y.2 0, 12, .inl fr)), (a2, .inl (Y.2 0, 12, .inl le)), (a3, .inl (Y.2 1, 12, .inl fi))] H := by rw [e1, e2, e3]; exact hP
  have hD : va_D _ [(y, .inr (4, [.int (nI 0), .ref a1, .ref a2, .ref a3, .int (nI ((th_wa q0 0).1)), .int (nI ((th_wa q0 0).2.1)), .int (nI ((th_wa q0 0).2.2))])), (a1, .inl (Y.2 0, 12, .inl fr)), (a2, .inl (Y.2 0, 12, .inl le)), (a3, .inl (Y.2 1, 12, .inl fi))] := th_Dsame hD rfl
  refine lv_iconst (v := nI 0) hx hb dX4_leadToGrowth_8 (by decide) ?_
  refine lv_istore_n (lv' := [(3, .int (nI 0)), (0, .ref y), (1, .int (nI m0)), (2, .int (nI n))]) hx hb dX4_leadToGrowth_9 rfl hl (by decide) rfl (fun ls hl => ?_)
  have lp_1 : ∀ (n_2 : Nat) (i : Nat) (fr : Nat → Int32) (le : Nat → Int32) (fi : Nat → Int32) (H : Heap) (locs : List Loc) (ls : Array Slot), 7 - i < n_2 → (i ≤ 7) → (∀ j, j < i → th_sG (th_wa q0 j) = false) → (th_RW fr le fi (fun i => th_bf (th_wa q0 i)) (fun i => th_bn (th_wa q0 i)) (fun i => th_fi (th_wa q0 i)) i) → va_P Y.1 vwCl [(y, .inr (4, [.int (nI i), .ref a1, .ref a2, .ref a3, .int (nI ((th_wa q0 i).1)), .int (nI ((th_wa q0 i).2.1)), .int (nI ((th_wa q0 i).2.2))])), (a1, .inl (Y.2 0, 12, .inl fr)), (a2, .inl (Y.2 0, 12, .inl le)), (a3, .inl (Y.2 1, 12, .inl fi))] H → va_D (fun z => z ∈ [y, a1, a2, a3]) [(y, .inr (4, [.int (nI i), .ref a1, .ref a2, .ref a3, .int (nI ((th_wa q0 i).1)), .int (nI ((th_wa q0 i).2.1)), .int (nI ((th_wa q0 i).2.2))])), (a1, .inl (Y.2 0, 12, .inl fr)), (a2, .inl (Y.2 0, 12, .inl le)), (a3, .inl (Y.2 1, 12, .inl fi))] → va_S (fun z => z ∈ [y, a1, a2, a3]) H0 H locs → lv_has ls 4 [(0, .ref y), (1, .int (nI m0)), (2, .int (nI n)), (3, .int (nI i))] → W p l e (th_rm 2 0 0) s m args below meth c H locs 0 0 Q (F0 m 10 ls []) := by
    intro n_2; induction n_2 with
    | zero => intros; exfalso; omega
    | succ n_2 ih =>
      intro i fr le fi H locs ls hmz hi hj hw hP hD hS hl
      obtain ⟨k1, k2, k3, k4⟩ := th_stop hin hq128 th_sG2 hi hj
      have k5 := k1.1
      have k6 := k1.2.1
      have k7 : (th_wa q0 i).2.1 ≤ 128 := Nat.le_trans k2 (Nat.le_trans (Nat.pow_le_pow_right (n := 2) (by decide) (show 7 - i ≤ 7 by omega)) (by decide))
      refine lv_iload_n hx hb dX4_leadToGrowth_10 rfl (lv_at hl 3 rfl) ?_
      refine lv_bipush (v := nI 12) hx hb dX4_leadToGrowth_11 (by decide) ?_
      refine th_ige (tgt := 39) hx hb dX4_leadToGrowth_13 (by decide) (by omega) (by omega) (fun c_3 => by exfalso; omega) (fun c_3 => ?_)
      refine lv_aload_n hx hb dX4_leadToGrowth_16 rfl (lv_at hl 0 rfl) ?_
      refine va_get (D := Y.1) (ci := 4) (v := .int (nI ((th_wa q0 i).2.2))) (C := RX4) (T := TX4) (N := 7) hx hb hts inX4 hown hK hP 0 rfl rfl 6 (by decide) (hts _ tw_1_45) (fun _ h9 => h9) rfl dX4_leadToGrowth_17 ?_
      refine lv_aload_n hx hb dX4_leadToGrowth_20 rfl (lv_at hl 0 rfl) ?_
      refine va_get (D := Y.1) (ci := 4) (v := .int (nI ((th_wa q0 i).2.1))) (C := RX4) (T := TX4) (N := 7) hx hb hts inX4 hown hK hP 0 rfl rfl 5 (by decide) (hts _ tw_1_44) (fun _ h9 => h9) rfl dX4_leadToGrowth_21 ?_
      refine lv_iconst (v := nI 1) hx hb dX4_leadToGrowth_24 (by decide) ?_
      refine lv_isub hx hb dX4_leadToGrowth_25 ?_
      refine th_ti (pk_sub (by omega)) ?_
      refine th_ige (tgt := 39) hx hb dX4_leadToGrowth_26 (by decide) (by omega) (by omega) (fun c_4 => ?_) (fun c_4 => ?_)
      · skip
        have hd : th_dG q0 = i := th_dF_eq th_sG 8 i q0 (by omega) (decide_eq_true (by omega)) hj
        refine lv_aload_n hx hb dX4_leadToGrowth_39 rfl (lv_at hl 0 rfl) ?_
        refine th_callV hx hb hml hown hts ⟨hK, hN⟩ hl hS (hP 0 _ rfl) rfl (rest := []) (c_X4_endsInTrust l Y _ y a1 a2 a3 i ((th_wa q0 i).1) ((th_wa q0 i).2.1) ((th_wa q0 i).2.2) fr le fi hP (by omega)) ok_X4_endsInTrust tw_2_184 dX4_leadToGrowth_40 rfl rfl (Nat.le_of_ble_eq_true rfl) ⟨Nat.le_of_ble_eq_true rfl, Nat.le_of_ble_eq_true rfl⟩ ⟨Nat.le_of_ble_eq_true rfl, Nat.le_of_ble_eq_true rfl⟩ (fun _ h => h.elim) (th_kpi (fun locs hS => ?_))
        by_cases cF : (th_wa q0 i).1 = 0
        · rw [if_pos cF]
          refine th_zne (tgt := 59) hx hb dX4_leadToGrowth_43 (by decide) (by omega) (fun c_5 => ?_) (fun c_5 => by exfalso; omega)
          refine th_vret hx hb hr hlk hQ hS dX4_leadToGrowth_59 (Nat.le_of_ble_eq_true rfl) (Nat.le_of_ble_eq_true rfl) ?_
          have hg : th_gR q0 = i := by unfold th_gR; rw [hd, if_pos cF]
          subst hq0
          exact ⟨rfl, fr, le, fi, by rw [hg, hd]; exact hP, by rw [hg]; exact th_gw1 hd hw⟩
        rw [if_neg cF]
        refine th_zne (tgt := 59) hx hb dX4_leadToGrowth_43 (by decide) (by omega) (fun c_6 => by exfalso; omega) (fun c_6 => ?_)
        refine lv_aload_n hx hb dX4_leadToGrowth_46 rfl (lv_at hl 0 rfl) ?_
        refine lv_aload_n hx hb dX4_leadToGrowth_47 rfl (lv_at hl 0 rfl) ?_
        refine va_get (D := Y.1) (ci := 4) (v := .int (nI ((th_wa q0 i).1))) (C := RX4) (T := TX4) (N := 7) hx hb hts inX4 hown hK hP 0 rfl rfl 4 (by decide) (hts _ tw_1_43) (fun _ h9 => h9) rfl dX4_leadToGrowth_48 ?_
        refine lv_aload_n hx hb dX4_leadToGrowth_51 rfl (lv_at hl 0 rfl) ?_
        refine va_get (D := Y.1) (ci := 4) (v := .int (nI ((th_wa q0 i).2.1))) (C := RX4) (T := TX4) (N := 7) hx hb hts inX4 hown hK hP 0 rfl rfl 5 (by decide) (hts _ tw_1_44) (fun _ h9 => h9) rfl dX4_leadToGrowth_52 ?_
        refine lv_iconst (v := nI 0) hx hb dX4_leadToGrowth_55 (by decide) ?_
        refine th_callV hx hb hml hown hts ⟨hK, hN⟩ hl hS (hP 0 _ rfl) rfl (rest := []) (c_X4_leaveBeside l Y _ y a1 a2 a3 i ((th_wa q0 i).1) ((th_wa q0 i).2.1) ((th_wa q0 i).2.2) fr le fi hP ((hD.sub (ws' := [(y, .inr (4, [.int (nI i), .ref a1, .ref a2, .ref a3, .int (nI ((th_wa q0 i).1)), .int (nI ((th_wa q0 i).2.1)), .int (nI ((th_wa q0 i).2.2))])), (a1, .inl (Y.2 0, 12, .inl fr)), (a2, .inl (Y.2 0, 12, .inl le)), (a3, .inl (Y.2 1, 12, .inl fi))]) [0, 1, 2, 3] (by decide) rfl).weaken (fun _ _ _ _ => trivial)) ((th_wa q0 i).1) ((th_wa q0 i).2.1) (nI 0) (by first | exact Or.inl rfl | exact Or.inr rfl) (by omega)) ok_X4_leaveBeside tw_2_156 dX4_leadToGrowth_56 rfl rfl (Nat.le_of_ble_eq_true rfl) ⟨Nat.le_of_ble_eq_true rfl, Nat.le_of_ble_eq_true rfl⟩ ⟨Nat.le_of_ble_eq_true rfl, Nat.le_of_ble_eq_true rfl⟩ (fun z hz => by simp only [List.mem_cons, List.not_mem_nil, or_false] at hz ⊢; omega) (th_kv (fun H locs hp hsm hS => ?_))
        have hPc := hp
        have hP : va_P Y.1 vwCl [(y, .inr (4, [.int (nI (i + 1)), .ref a1, .ref a2, .ref a3, .int (nI ((th_wa q0 i).1)), .int (nI ((th_wa q0 i).2.1)), .int (nI ((th_wa q0 i).2.2))])), (a1, .inl (Y.2 0, 12, .inl (upd fr i (nI ((th_wa q0 i).1))))), (a2, .inl (Y.2 0, 12, .inl (upd le i (nI ((th_wa q0 i).2.1))))), (a3, .inl (Y.2 1, 12, .inl (upd fi i (nI 0))))] _ := hPc
        have hD : va_D _ [(y, .inr (4, [.int (nI (i + 1)), .ref a1, .ref a2, .ref a3, .int (nI ((th_wa q0 i).1)), .int (nI ((th_wa q0 i).2.1)), .int (nI ((th_wa q0 i).2.2))])), (a1, .inl (Y.2 0, 12, .inl (upd fr i (nI ((th_wa q0 i).1))))), (a2, .inl (Y.2 0, 12, .inl (upd le i (nI ((th_wa q0 i).2.1))))), (a3, .inl (Y.2 1, 12, .inl (upd fi i (nI 0))))] := th_Dsame hD rfl
        refine th_vret hx hb hr hlk hQ hS dX4_leadToGrowth_59 (Nat.le_of_ble_eq_true rfl) (Nat.le_of_ble_eq_true rfl) ?_
        have hg : th_gR q0 = i + 1 := by unfold th_gR; rw [hd, if_neg cF]
        subst hq0
        exact ⟨rfl, _, _, _, by rw [hg, hd]; exact hP, by rw [hg]; exact th_gw2 hd hw⟩
      have hstop : th_sG (th_wa q0 i) = false := decide_eq_false (by omega)
      obtain ⟨k8, k9⟩ := k4 hstop
      refine lv_aload_n hx hb dX4_leadToGrowth_29 rfl (lv_at hl 0 rfl) ?_
      refine th_callV hx hb hml hown hts ⟨hK, hN⟩ hl hS (hP 0 _ rfl) rfl (rest := []) (c_X4_goDown l Y _ y a1 a2 a3 i ((th_wa q0 i).1) ((th_wa q0 i).2.1) ((th_wa q0 i).2.2) fr le fi hP ((hD.sub (ws' := [(y, .inr (4, [.int (nI i), .ref a1, .ref a2, .ref a3, .int (nI ((th_wa q0 i).1)), .int (nI ((th_wa q0 i).2.1)), .int (nI ((th_wa q0 i).2.2))])), (a1, .inl (Y.2 0, 12, .inl fr)), (a2, .inl (Y.2 0, 12, .inl le)), (a3, .inl (Y.2 1, 12, .inl fi))]) [0, 1, 2, 3] (by decide) rfl).weaken (fun _ _ _ _ => trivial)) (by omega) (by omega) (by omega) (by omega) (by omega)) ok_X4_goDown tw_2_151 dX4_leadToGrowth_30 rfl rfl (Nat.le_of_ble_eq_true rfl) ⟨Nat.le_of_ble_eq_true rfl, Nat.le_of_ble_eq_true rfl⟩ ⟨Nat.le_of_ble_eq_true rfl, Nat.le_of_ble_eq_true rfl⟩ (fun z hz => by simp only [List.mem_cons, List.not_mem_nil, or_false] at hz ⊢; omega) (th_kv (fun H locs hp hsm hS => ?_))
      have hPc := hp
      have hP : va_P Y.1 vwCl [(y, .inr (4, [.int (nI (i + 1)), .ref a1, .ref a2, .ref a3, .int (nI ((th_nx ((th_wa q0 i).1, (th_wa q0 i).2.1, (th_wa q0 i).2.2)).1)), .int (nI ((th_nx ((th_wa q0 i).1, (th_wa q0 i).2.1, (th_wa q0 i).2.2)).2.1)), .int (nI ((th_nx ((th_wa q0 i).1, (th_wa q0 i).2.1, (th_wa q0 i).2.2)).2.2))])), (a1, .inl (Y.2 0, 12, .inl (upd fr i (nI (th_bf ((th_wa q0 i).1, (th_wa q0 i).2.1, (th_wa q0 i).2.2)))))), (a2, .inl (Y.2 0, 12, .inl (upd le i (nI (th_bn ((th_wa q0 i).1, (th_wa q0 i).2.1, (th_wa q0 i).2.2)))))), (a3, .inl (Y.2 1, 12, .inl (upd fi i (th_fi ((th_wa q0 i).1, (th_wa q0 i).2.1, (th_wa q0 i).2.2)))))] _ := hPc
      have hD : va_D _ [(y, .inr (4, [.int (nI (i + 1)), .ref a1, .ref a2, .ref a3, .int (nI ((th_nx ((th_wa q0 i).1, (th_wa q0 i).2.1, (th_wa q0 i).2.2)).1)), .int (nI ((th_nx ((th_wa q0 i).1, (th_wa q0 i).2.1, (th_wa q0 i).2.2)).2.1)), .int (nI ((th_nx ((th_wa q0 i).1, (th_wa q0 i).2.1, (th_wa q0 i).2.2)).2.2))])), (a1, .inl (Y.2 0, 12, .inl (upd fr i (nI (th_bf ((th_wa q0 i).1, (th_wa q0 i).2.1, (th_wa q0 i).2.2)))))), (a2, .inl (Y.2 0, 12, .inl (upd le i (nI (th_bn ((th_wa q0 i).1, (th_wa q0 i).2.1, (th_wa q0 i).2.2)))))), (a3, .inl (Y.2 1, 12, .inl (upd fi i (th_fi ((th_wa q0 i).1, (th_wa q0 i).2.1, (th_wa q0 i).2.2)))))] := th_Dsame hD rfl
      refine lv_iinc (v := nI (i + 1)) (lv' := [(3, .int (nI (i + 1))), (0, .ref y), (1, .int (nI m0)), (2, .int (nI n))]) hx hb dX4_leadToGrowth_33 hl (k := 3) rfl (nI_add _ 1) (by decide) rfl (fun ls hl => ?_)
      refine lv_goto (tgt := 10) hx hb dX4_leadToGrowth_36 (by decide) ?_
      exact ih (i + 1) (upd fr i (nI (th_bf (th_wa q0 i)))) (upd le i (nI (th_bn (th_wa q0 i)))) (upd fi i (th_fi (th_wa q0 i))) _ _ _ (by omega) (by omega) (lt_s hj hstop) (th_RW_s hw rfl rfl rfl) hP hD hS (lv_sub hl [1, 2, 3, 0] rfl)
  exact lp_1 ((7 - (0)) + 1) (0) (fr) (le) (fi) _ _ _ (Nat.lt_succ_self _) (by omega) (fun j hj => by omega) (th_RW_0) hP hD hS (lv_sub hl [1, 2, 3, 0] rfl)

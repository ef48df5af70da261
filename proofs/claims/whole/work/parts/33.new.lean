set_option maxRecDepth 100000 in
set_option maxHeartbeats 4000000 in
theorem c_X2_init (l : Launch) (Y : th_Y) (H0 : Heap) (v : Nat) (hP : va_P Y.1 vwCl [(v, .inr (2, [.int (nI 0), .null, .null]))] H0) : th_M l Y yX2_init cX2_init 1 none (th_rm 0 2 356) [.ref v] H0 (fun q => q = v ∨ H0.size ≤ q) (fun r' H' => r' = none ∧ ∃ (a : Nat) (b : Nat), va_P Y.1 vwCl [(v, .inr (2, [.int (nI 0), .ref a, .ref b])), (a, .inl (Y.2 0, 100, .inl (fun _ => nI 0))), (b, .inl (Y.2 0, 256, .inl (fun _ => nI 0)))] H' ∧ va_D (fun q => q = v ∨ H0.size ≤ q) [(v, .inr (2, [.int (nI 0), .ref a, .ref b])), (a, .inl (Y.2 0, 100, .inl (fun _ => nI 0))), (b, .inl (Y.2 0, 256, .inl (fun _ => nI 0)))]) := by
  refine th_M.intro (by decide) (Nat.le_of_ble_eq_true rfl) ?_
  intro p e s m args below meth c ls Q hQ C hKN hl hS
  obtain ⟨hx, hb, hr, hml, hown, hts, hlk, hnm⟩ := C
  obtain ⟨hK, hN⟩ := hKN
  have hown : s.vm.findClass RX2 = some m.cls := hown
  have hl : lv_has ls 1 [(0, .ref v)] := hl
  have hA9 : ∀ q : Nat, H0.size ≤ q → (fun q => q = v ∨ H0.size ≤ q) q := fun _ h => Or.inr h
  have hD : va_D (fun q => q = v ∨ H0.size ≤ q) [(v, .inr (2, [.int (nI 0), .null, .null]))] := th_D1 (Or.inl rfl)
  refine lv_aload_n hx hb dX2_init_0 rfl (lv_at hl 0 rfl) ?_
  refine W.objInit hx hb hown (hts _ tw_1_91) (hts _ tw_1_20) (hts _ tw_1_21) rfl (by rw [hml]; exact hl.1) rfl dX2_init_1 (Nat.le_of_ble_eq_true rfl) (Nat.le_of_ble_eq_true rfl) ?_
  refine W.eq (g2 := F0 m 4 ls []) rfl ?_
  refine lv_aload_n hx hb dX2_init_4 rfl (lv_at hl 0 rfl) ?_
  refine lv_bipush (v := nI 100) hx hb dX2_init_5 (by decide) ?_
  refine th_newI (n := 100) hx hb hts tw_1_61 hK hP hD hS hA9 (by omega) (Nat.le_of_ble_eq_true rfl) (Nat.le_of_ble_eq_true rfl) dX2_init_7 (fun qa_1 H hP hD hS => ?_)
  have hP : va_P Y.1 vwCl [(v, .inr (2, [.int (nI 0), .null, .null])), (qa_1, .inl (Y.2 0, 100, .inl (fun _ => nI 0)))] _ := hP
  have hD : va_D _ [(v, .inr (2, [.int (nI 0), .null, .null])), (qa_1, .inl (Y.2 0, 100, .inl (fun _ => nI 0)))] := hD
  refine va_putF (D := Y.1) (ci := 2) (v := .ref qa_1) (ty := .array .int) (C := RX2) (T := TX2) (N := 3) hx hb hts inX2 tyX2 tyX2_ok nmX2 hown hK hP hD hS 0 rfl rfl 1 (by decide) (hts _ tw_1_95) (fun _ h9 => h9) rfl hnm rfl (by decide +kernel) rfl rfl (Nat.le_of_ble_eq_true rfl) dX2_init_9 (fun H locs hP hD hS => ?_)
  have hP : va_P Y.1 vwCl [(v, .inr (2, [.int (nI 0), .ref qa_1, .null])), (qa_1, .inl (Y.2 0, 100, .inl (fun _ => nI 0)))] _ := hP
  have hD : va_D _ [(v, .inr (2, [.int (nI 0), .ref qa_1, .null])), (qa_1, .inl (Y.2 0, 100, .inl (fun _ => nI 0)))] := hD
  refine lv_aload_n hx hb dX2_init_12 rfl (lv_at hl 0 rfl) ?_
  refine lv_sipush (v := nI 256) hx hb dX2_init_13 (by decide) ?_
  refine th_newI (n := 256) hx hb hts tw_1_61 hK hP hD hS hA9 (by omega) (Nat.le_of_ble_eq_true rfl) (Nat.le_of_ble_eq_true rfl) dX2_init_16 (fun qa_2 H hP hD hS => ?_)
  have hP : va_P Y.1 vwCl [(v, .inr (2, [.int (nI 0), .ref qa_1, .null])), (qa_1, .inl (Y.2 0, 100, .inl (fun _ => nI 0))), (qa_2, .inl (Y.2 0, 256, .inl (fun _ => nI 0)))] _ := hP
  have hD : va_D _ [(v, .inr (2, [.int (nI 0), .ref qa_1, .null])), (qa_1, .inl (Y.2 0, 100, .inl (fun _ => nI 0))), (qa_2, .inl (Y.2 0, 256, .inl (fun _ => nI 0)))] := hD
  refine va_putF (D := Y.1) (ci := 2) (v := .ref qa_2) (ty := .array .int) (C := RX2) (T := TX2) (N := 3) hx hb hts inX2 tyX2 tyX2_ok nmX2 hown hK hP hD hS 0 rfl rfl 2 (by decide) (hts _ tw_1_96) (fun _ h9 => h9) rfl hnm rfl (by decide +kernel) rfl rfl (Nat.le_of_ble_eq_true rfl) dX2_init_18 (fun H locs hP hD hS => ?_)
  have hP : va_P Y.1 vwCl [(v, .inr (2, [.int (nI 0), .ref qa_1, .ref qa_2])), (qa_1, .inl (Y.2 0, 100, .inl (fun _ => nI 0))), (qa_2, .inl (Y.2 0, 256, .inl (fun _ => nI 0)))] _ := hP
  have hD : va_D _ [(v, .inr (2, [.int (nI 0), .ref qa_1, .ref qa_2])), (qa_1, .inl (Y.2 0, 100, .inl (fun _ => nI 0))), (qa_2, .inl (Y.2 0, 256, .inl (fun _ => nI 0)))] := hD
  refine th_vret hx hb hr hlk hQ hS dX2_init_21 (Nat.le_of_ble_eq_true rfl) (Nat.le_of_ble_eq_true rfl) ?_
  exact ⟨rfl, _, _, hP, hD⟩

set_option maxRecDepth 100000 in
set_option maxHeartbeats 4000000 in
theorem c_X4_init (l : Launch) (Y : th_Y) (H0 : Heap) (y : Nat) (hP : va_P Y.1 vwCl [(y, .inr (4, [.int (nI 0), .null, .null, .null, .int (nI 0), .int (nI 0), .int (nI 0)]))] H0) : th_M l Y yX4_init cX4_init 1 none (th_rm 0 3 36) [.ref y] H0 (fun q => q = y ∨ H0.size ≤ q) (fun r' H' => r' = none ∧ ∃ (a1 : Nat) (a2 : Nat) (a3 : Nat), va_P Y.1 vwCl [(y, .inr (4, [.int (nI 0), .ref a1, .ref a2, .ref a3, .int (nI 0), .int (nI 0), .int (nI 0)])), (a1, .inl (Y.2 0, 12, .inl (fun _ => nI 0))), (a2, .inl (Y.2 0, 12, .inl (fun _ => nI 0))), (a3, .inl (Y.2 1, 12, .inl (fun _ => nI 0)))] H' ∧ va_D (fun q => q = y ∨ H0.size ≤ q) [(y, .inr (4, [.int (nI 0), .ref a1, .ref a2, .ref a3, .int (nI 0), .int (nI 0), .int (nI 0)])), (a1, .inl (Y.2 0, 12, .inl (fun _ => nI 0))), (a2, .inl (Y.2 0, 12, .inl (fun _ => nI 0))), (a3, .inl (Y.2 1, 12, .inl (fun _ => nI 0)))]) := by
  refine th_M.intro (by decide) (Nat.le_of_ble_eq_true rfl) ?_
  intro p e s m args below meth c ls Q hQ C hKN hl hS
  obtain ⟨hx, hb, hr, hml, hown, hts, hlk, hnm⟩ := C
  obtain ⟨hK, hN⟩ := hKN
  have hown : s.vm.findClass RX4 = some m.cls := hown
  have hl : lv_has ls 1 [(0, .ref y)] := hl
  have hA9 : ∀ q : Nat, H0.size ≤ q → (fun q => q = y ∨ H0.size ≤ q) q := fun _ h => Or.inr h
  have hD : va_D (fun q => q = y ∨ H0.size ≤ q) [(y, .inr (4, [.int (nI 0), .null, .null, .null, .int (nI 0), .int (nI 0), .int (nI 0)]))] := th_D1 (Or.inl rfl)
  refine lv_aload_n hx hb dX4_init_0 rfl (lv_at hl 0 rfl) ?_
  refine W.objInit hx hb hown (hts _ tw_1_37) (hts _ tw_1_20) (hts _ tw_1_21) rfl (by rw [hml]; exact hl.1) rfl dX4_init_1 (Nat.le_of_ble_eq_true rfl) (Nat.le_of_ble_eq_true rfl) ?_
  refine W.eq (g2 := F0 m 4 ls []) rfl ?_
  refine lv_aload_n hx hb dX4_init_4 rfl (lv_at hl 0 rfl) ?_
  refine lv_bipush (v := nI 12) hx hb dX4_init_5 (by decide) ?_
  refine th_newI (n := 12) hx hb hts tw_1_61 hK hP hD hS hA9 (by omega) (Nat.le_of_ble_eq_true rfl) (Nat.le_of_ble_eq_true rfl) dX4_init_7 (fun qa_1 H hP hD hS => ?_)
  have hP : va_P Y.1 vwCl [(y, .inr (4, [.int (nI 0), .null, .null, .null, .int (nI 0), .int (nI 0), .int (nI 0)])), (qa_1, .inl (Y.2 0, 12, .inl (fun _ => nI 0)))] _ := hP
  have hD : va_D _ [(y, .inr (4, [.int (nI 0), .null, .null, .null, .int (nI 0), .int (nI 0), .int (nI 0)])), (qa_1, .inl (Y.2 0, 12, .inl (fun _ => nI 0)))] := hD
  refine va_putF (D := Y.1) (ci := 4) (v := .ref qa_1) (ty := .array .int) (C := RX4) (T := TX4) (N := 7) hx hb hts inX4 tyX4 tyX4_ok nmX4 hown hK hP hD hS 0 rfl rfl 1 (by decide) (hts _ tw_1_40) (fun _ h9 => h9) rfl hnm rfl (by decide +kernel) rfl rfl (Nat.le_of_ble_eq_true rfl) dX4_init_9 (fun H locs hP hD hS => ?_)
  have hP : va_P Y.1 vwCl [(y, .inr (4, [.int (nI 0), .ref qa_1, .null, .null, .int (nI 0), .int (nI 0), .int (nI 0)])), (qa_1, .inl (Y.2 0, 12, .inl (fun _ => nI 0)))] _ := hP
  have hD : va_D _ [(y, .inr (4, [.int (nI 0), .ref qa_1, .null, .null, .int (nI 0), .int (nI 0), .int (nI 0)])), (qa_1, .inl (Y.2 0, 12, .inl (fun _ => nI 0)))] := hD
  refine lv_aload_n hx hb dX4_init_12 rfl (lv_at hl 0 rfl) ?_
  refine lv_bipush (v := nI 12) hx hb dX4_init_13 (by decide) ?_
  refine th_newI (n := 12) hx hb hts tw_1_61 hK hP hD hS hA9 (by omega) (Nat.le_of_ble_eq_true rfl) (Nat.le_of_ble_eq_true rfl) dX4_init_15 (fun qa_2 H hP hD hS => ?_)
  have hP : va_P Y.1 vwCl [(y, .inr (4, [.int (nI 0), .ref qa_1, .null, .null, .int (nI 0), .int (nI 0), .int (nI 0)])), (qa_1, .inl (Y.2 0, 12, .inl (fun _ => nI 0))), (qa_2, .inl (Y.2 0, 12, .inl (fun _ => nI 0)))] _ := hP
  have hD : va_D _ [(y, .inr (4, [.int (nI 0), .ref qa_1, .null, .null, .int (nI 0), .int (nI 0), .int (nI 0)])), (qa_1, .inl (Y.2 0, 12, .inl (fun _ => nI 0))), (qa_2, .inl (Y.2 0, 12, .inl (fun _ => nI 0)))] := hD
  refine va_putF (D := Y.1) (ci := 4) (v := .ref qa_2) (ty := .array .int) (C := RX4) (T := TX4) (N := 7) hx hb hts inX4 tyX4 tyX4_ok nmX4 hown hK hP hD hS 0 rfl rfl 2 (by decide) (hts _ tw_1_41) (fun _ h9 => h9) rfl hnm rfl (by decide +kernel) rfl rfl (Nat.le_of_ble_eq_true rfl) dX4_init_17 (fun H locs hP hD hS => ?_)
  have hP : va_P Y.1 vwCl [(y, .inr (4, [.int (nI 0), .ref qa_1, .ref qa_2, .null, .int (nI 0), .int (nI 0), .int (nI 0)])), (qa_1, .inl (Y.2 0, 12, .inl (fun _ => nI 0))), (qa_2, .inl (Y.2 0, 12, .inl (fun _ => nI 0)))] _ := hP
  have hD : va_D _ [(y, .inr (4, [.int (nI 0), .ref qa_1, .ref qa_2, .null, .int (nI 0), .int (nI 0), .int (nI 0)])), (qa_1, .inl (Y.2 0, 12, .inl (fun _ => nI 0))), (qa_2, .inl (Y.2 0, 12, .inl (fun _ => nI 0)))] := hD
  refine lv_aload_n hx hb dX4_init_20 rfl (lv_at hl 0 rfl) ?_
  refine lv_bipush (v := nI 12) hx hb dX4_init_21 (by decide) ?_
  refine th_newZ (n := 12) hx hb hts tw_1_62 hK hP hD hS hA9 (by omega) (Nat.le_of_ble_eq_true rfl) (Nat.le_of_ble_eq_true rfl) dX4_init_23 (fun qa_3 H hP hD hS => ?_)
  have hP : va_P Y.1 vwCl [(y, .inr (4, [.int (nI 0), .ref qa_1, .ref qa_2, .null, .int (nI 0), .int (nI 0), .int (nI 0)])), (qa_1, .inl (Y.2 0, 12, .inl (fun _ => nI 0))), (qa_2, .inl (Y.2 0, 12, .inl (fun _ => nI 0))), (qa_3, .inl (Y.2 1, 12, .inl (fun _ => nI 0)))] _ := hP
  have hD : va_D _ [(y, .inr (4, [.int (nI 0), .ref qa_1, .ref qa_2, .null, .int (nI 0), .int (nI 0), .int (nI 0)])), (qa_1, .inl (Y.2 0, 12, .inl (fun _ => nI 0))), (qa_2, .inl (Y.2 0, 12, .inl (fun _ => nI 0))), (qa_3, .inl (Y.2 1, 12, .inl (fun _ => nI 0)))] := hD
  refine va_putF (D := Y.1) (ci := 4) (v := .ref qa_3) (ty := .array .boolean) (C := RX4) (T := TX4) (N := 7) hx hb hts inX4 tyX4 tyX4_ok nmX4 hown hK hP hD hS 0 rfl rfl 3 (by decide) (hts _ tw_1_42) (fun _ h9 => h9) rfl hnm rfl (by decide +kernel) rfl rfl (Nat.le_of_ble_eq_true rfl) dX4_init_25 (fun H locs hP hD hS => ?_)
  have hP : va_P Y.1 vwCl [(y, .inr (4, [.int (nI 0), .ref qa_1, .ref qa_2, .ref qa_3, .int (nI 0), .int (nI 0), .int (nI 0)])), (qa_1, .inl (Y.2 0, 12, .inl (fun _ => nI 0))), (qa_2, .inl (Y.2 0, 12, .inl (fun _ => nI 0))), (qa_3, .inl (Y.2 1, 12, .inl (fun _ => nI 0)))] _ := hP
  have hD : va_D _ [(y, .inr (4, [.int (nI 0), .ref qa_1, .ref qa_2, .ref qa_3, .int (nI 0), .int (nI 0), .int (nI 0)])), (qa_1, .inl (Y.2 0, 12, .inl (fun _ => nI 0))), (qa_2, .inl (Y.2 0, 12, .inl (fun _ => nI 0))), (qa_3, .inl (Y.2 1, 12, .inl (fun _ => nI 0)))] := hD
  refine th_vret hx hb hr hlk hQ hS dX4_init_28 (Nat.le_of_ble_eq_true rfl) (Nat.le_of_ble_eq_true rfl) ?_
  exact ⟨rfl, _, _, _, hP, hD⟩

set_option maxRecDepth 100000 in
set_option maxHeartbeats 4000000 in
theorem c_X0_init (l : Launch) (Y : th_Y) (H0 : Heap) (dk : Nat) (hP : va_P Y.1 vwCl [(dk, .inr (0, [.int (nI 0), .null, .null]))] H0) : th_M l Y yX0_init cX0_init 1 none (th_rm 1 5 60) [.ref dk] H0 (fun q => q = dk ∨ H0.size ≤ q) (fun r' H' => r' = none ∧ ∃ (sm : Nat) (y : Nat) (a1 : Nat) (a2 : Nat) (a3 : Nat), va_P Y.1 vwCl [(dk, .inr (0, [.int (nI 0), .ref sm, .ref y])), (sm, .inl (Y.2 0, 12, .inl (fun _ => nI 0))), (y, .inr (4, [.int (nI 0), .ref a1, .ref a2, .ref a3, .int (nI 0), .int (nI 0), .int (nI 0)])), (a1, .inl (Y.2 0, 12, .inl (fun _ => nI 0))), (a2, .inl (Y.2 0, 12, .inl (fun _ => nI 0))), (a3, .inl (Y.2 1, 12, .inl (fun _ => nI 0)))] H' ∧ va_D (fun q => q = dk ∨ H0.size ≤ q) [(dk, .inr (0, [.int (nI 0), .ref sm, .ref y])), (sm, .inl (Y.2 0, 12, .inl (fun _ => nI 0))), (y, .inr (4, [.int (nI 0), .ref a1, .ref a2, .ref a3, .int (nI 0), .int (nI 0), .int (nI 0)])), (a1, .inl (Y.2 0, 12, .inl (fun _ => nI 0))), (a2, .inl (Y.2 0, 12, .inl (fun _ => nI 0))), (a3, .inl (Y.2 1, 12, .inl (fun _ => nI 0)))]) := by
  refine th_M.intro (by decide) (Nat.le_of_ble_eq_true rfl) ?_
  intro p e s m args below meth c ls Q hQ C hKN hl hS
  obtain ⟨hx, hb, hr, hml, hown, hts, hlk, hnm⟩ := C
  obtain ⟨hK, hN⟩ := hKN
  have hown : s.vm.findClass RX0 = some m.cls := hown
  have hl : lv_has ls 1 [(0, .ref dk)] := hl
  have hA9 : ∀ q : Nat, H0.size ≤ q → (fun q => q = dk ∨ H0.size ≤ q) q := fun _ h => Or.inr h
  have hD : va_D (fun q => q = dk ∨ H0.size ≤ q) [(dk, .inr (0, [.int (nI 0), .null, .null]))] := th_D1 (Or.inl rfl)
  refine lv_aload_n hx hb dX0_init_0 rfl (lv_at hl 0 rfl) ?_
  refine W.objInit hx hb hown (hts _ tw_1_31) (hts _ tw_1_20) (hts _ tw_1_21) rfl (by rw [hml]; exact hl.1) rfl dX0_init_1 (Nat.le_of_ble_eq_true rfl) (Nat.le_of_ble_eq_true rfl) ?_
  refine W.eq (g2 := F0 m 4 ls []) rfl ?_
  refine lv_aload_n hx hb dX0_init_4 rfl (lv_at hl 0 rfl) ?_
  refine lv_bipush (v := nI 12) hx hb dX0_init_5 (by decide) ?_
  refine th_newI (n := 12) hx hb hts tw_1_61 hK hP hD hS hA9 (by omega) (Nat.le_of_ble_eq_true rfl) (Nat.le_of_ble_eq_true rfl) dX0_init_7 (fun qa_1 H hP hD hS => ?_)
  have hP : va_P Y.1 vwCl [(dk, .inr (0, [.int (nI 0), .null, .null])), (qa_1, .inl (Y.2 0, 12, .inl (fun _ => nI 0)))] _ := hP
  have hD : va_D _ [(dk, .inr (0, [.int (nI 0), .null, .null])), (qa_1, .inl (Y.2 0, 12, .inl (fun _ => nI 0)))] := hD
  refine va_putF (D := Y.1) (ci := 0) (v := .ref qa_1) (ty := .array .int) (C := RX0) (T := TX0) (N := 3) hx hb hts inX0 tyX0 tyX0_ok nmX0 hown hK hP hD hS 0 rfl rfl 1 (by decide) (hts _ tw_1_65) (fun _ h9 => h9) rfl hnm rfl (by decide +kernel) rfl rfl (Nat.le_of_ble_eq_true rfl) dX0_init_9 (fun H locs hP hD hS => ?_)
  have hP : va_P Y.1 vwCl [(dk, .inr (0, [.int (nI 0), .ref qa_1, .null])), (qa_1, .inl (Y.2 0, 12, .inl (fun _ => nI 0)))] _ := hP
  have hD : va_D _ [(dk, .inr (0, [.int (nI 0), .ref qa_1, .null])), (qa_1, .inl (Y.2 0, 12, .inl (fun _ => nI 0)))] := hD
  refine lv_aload_n hx hb dX0_init_12 rfl (lv_at hl 0 rfl) ?_
  refine va_new (D := Y.1) (ci := 4) (fs := [.int (nI 0), .null, .null, .null, .int (nI 0), .int (nI 0), .int (nI 0)]) (C := RX4) (T := TX4) (N := 7) hx hb hts inX4 tyX4 tyX4_ok hown (hts _ tw_1_32) (hts _ tw_1_33) (hts _ tw_1_3) hK hP hD hS hA9 rfl (fun j hj => by rcases (show j = 0 ∨ j = 1 ∨ j = 2 ∨ j = 3 ∨ j = 4 ∨ j = 5 ∨ j = 6 by omega) with rfl | rfl | rfl | rfl | rfl | rfl | rfl <;> rfl) (Nat.le_of_ble_eq_true rfl) (Nat.le_of_ble_eq_true rfl) dX0_init_13 (fun qo_2 H hP hD hS => ?_)
  have hP : va_P Y.1 vwCl [(dk, .inr (0, [.int (nI 0), .ref qa_1, .null])), (qa_1, .inl (Y.2 0, 12, .inl (fun _ => nI 0))), (qo_2, .inr (4, [.int (nI 0), .null, .null, .null, .int (nI 0), .int (nI 0), .int (nI 0)]))] _ := hP
  have hD : va_D _ [(dk, .inr (0, [.int (nI 0), .ref qa_1, .null])), (qa_1, .inl (Y.2 0, 12, .inl (fun _ => nI 0))), (qo_2, .inr (4, [.int (nI 0), .null, .null, .null, .int (nI 0), .int (nI 0), .int (nI 0)]))] := hD
  refine lv_dup hx hb dX0_init_16 rfl ?_
  have hSz := hS.1
  refine th_callIN hx hb hml hown hts ⟨hK, hN⟩ hl hS (rest := [.ref qo_2, .ref dk]) (c_X4_init l Y _ qo_2 (hP.sub (ws' := [(qo_2, .inr (4, [.int (nI 0), .null, .null, .null, .int (nI 0), .int (nI 0), .int (nI 0)]))]) [2] rfl)) ok_X4_init (tn_1_34 hN) dX0_init_17 rfl rfl (Nat.le_of_ble_eq_true rfl) ⟨(Nat.le_of_ble_eq_true rfl), (Nat.le_of_ble_eq_true rfl)⟩ ⟨(Nat.le_of_ble_eq_true rfl), (Nat.le_of_ble_eq_true rfl)⟩ (fun q9 hq9 => hq9.elim (fun e9 => by rw [e9]; exact hD.2 2 _ rfl) (fun h9 => hA9 q9 (Nat.le_trans hSz h9))) (th_kv (fun H locs hp hsm hS => ?_))
  obtain ⟨qi_3, qi_4, qi_5, hPc, hDc⟩ := hp
  obtain ⟨hP, hD⟩ := th_joinN (ws := [(dk, .inr (0, [.int (nI 0), .ref qa_1, .null])), (qa_1, .inl (Y.2 0, 12, .inl (fun _ => nI 0)))]) hP hD hsm hPc hDc (fun q9 h9 => hA9 q9 (Nat.le_trans hSz h9))
  have hP : va_P Y.1 vwCl [(dk, .inr (0, [.int (nI 0), .ref qa_1, .null])), (qa_1, .inl (Y.2 0, 12, .inl (fun _ => nI 0))), (qo_2, .inr (4, [.int (nI 0), .ref qi_3, .ref qi_4, .ref qi_5, .int (nI 0), .int (nI 0), .int (nI 0)])), (qi_3, .inl (Y.2 0, 12, .inl (fun _ => nI 0))), (qi_4, .inl (Y.2 0, 12, .inl (fun _ => nI 0))), (qi_5, .inl (Y.2 1, 12, .inl (fun _ => nI 0)))] _ := hP
  have hD : va_D _ [(dk, .inr (0, [.int (nI 0), .ref qa_1, .null])), (qa_1, .inl (Y.2 0, 12, .inl (fun _ => nI 0))), (qo_2, .inr (4, [.int (nI 0), .ref qi_3, .ref qi_4, .ref qi_5, .int (nI 0), .int (nI 0), .int (nI 0)])), (qi_3, .inl (Y.2 0, 12, .inl (fun _ => nI 0))), (qi_4, .inl (Y.2 0, 12, .inl (fun _ => nI 0))), (qi_5, .inl (Y.2 1, 12, .inl (fun _ => nI 0)))] := hD
  refine va_putF (D := Y.1) (ci := 0) (v := .ref qo_2) (ty := .object "TreeheadGallery$Way") (C := RX0) (T := TX0) (N := 3) hx hb hts inX0 tyX0 tyX0_ok nmX0 hown hK hP hD hS 0 rfl rfl 2 (by decide) (hts _ tw_1_66) (fun _ h9 => h9) rfl hnm rfl (by decide +kernel) rfl rfl (Nat.le_of_ble_eq_true rfl) dX0_init_20 (fun H locs hP hD hS => ?_)
  have hP : va_P Y.1 vwCl [(dk, .inr (0, [.int (nI 0), .ref qa_1, .ref qo_2])), (qa_1, .inl (Y.2 0, 12, .inl (fun _ => nI 0))), (qo_2, .inr (4, [.int (nI 0), .ref qi_3, .ref qi_4, .ref qi_5, .int (nI 0), .int (nI 0), .int (nI 0)])), (qi_3, .inl (Y.2 0, 12, .inl (fun _ => nI 0))), (qi_4, .inl (Y.2 0, 12, .inl (fun _ => nI 0))), (qi_5, .inl (Y.2 1, 12, .inl (fun _ => nI 0)))] _ := hP
  have hD : va_D _ [(dk, .inr (0, [.int (nI 0), .ref qa_1, .ref qo_2])), (qa_1, .inl (Y.2 0, 12, .inl (fun _ => nI 0))), (qo_2, .inr (4, [.int (nI 0), .ref qi_3, .ref qi_4, .ref qi_5, .int (nI 0), .int (nI 0), .int (nI 0)])), (qi_3, .inl (Y.2 0, 12, .inl (fun _ => nI 0))), (qi_4, .inl (Y.2 0, 12, .inl (fun _ => nI 0))), (qi_5, .inl (Y.2 1, 12, .inl (fun _ => nI 0)))] := hD
  refine th_vret hx hb hr hlk hQ hS dX0_init_23 (Nat.le_of_ble_eq_true rfl) (Nat.le_of_ble_eq_true rfl) ?_
  exact ⟨rfl, _, _, _, _, _, hP, hD⟩

set_option maxRecDepth 100000 in
set_option maxHeartbeats 4000000 in
theorem c_X1_init (l : Launch) (Y : th_Y) (H0 : Heap) (km : Nat) (hP : va_P Y.1 vwCl [(km, .inr (1, [.null, .null]))] H0) : th_M l Y yX1_init cX1_init 2 none (th_rm 0 2 192) [.ref km] H0 (fun q => q = km ∨ H0.size ≤ q) (fun r' H' => r' = none ∧ ∃ (kva : Nat) (ksa : Nat) (kv : Nat → Int32), va_P Y.1 vwCl [(km, .inr (1, [.ref kva, .ref ksa])), (kva, .inl (Y.2 0, 64, .inl kv)), (ksa, .inl (Y.2 0, 128, .inl (fun _ => nI 0)))] H' ∧ va_D (fun q => q = km ∨ H0.size ≤ q) [(km, .inr (1, [.ref kva, .ref ksa])), (kva, .inl (Y.2 0, 64, .inl kv)), (ksa, .inl (Y.2 0, 128, .inl (fun _ => nI 0)))] ∧ ∀ i, i < 64 → kv i = -1) := by
  refine th_M.intro (by decide) (Nat.le_of_ble_eq_true rfl) ?_
  intro p e s m args below meth c ls Q hQ C hKN hl hS
  obtain ⟨hx, hb, hr, hml, hown, hts, hlk, hnm⟩ := C
  obtain ⟨hK, hN⟩ := hKN
  have hown : s.vm.findClass RX1 = some m.cls := hown
  have hl : lv_has ls 2 [(0, .ref km)] := hl
  have hA9 : ∀ q : Nat, H0.size ≤ q → (fun q => q = km ∨ H0.size ≤ q) q := fun _ h => Or.inr h
  have hD : va_D (fun q => q = km ∨ H0.size ≤ q) [(km, .inr (1, [.null, .null]))] := th_D1 (Or.inl rfl)
  refine lv_aload_n hx hb dX1_init_0 rfl (lv_at hl 0 rfl) ?_
  refine W.objInit hx hb hown (hts _ tw_1_79) (hts _ tw_1_20) (hts _ tw_1_21) rfl (by rw [hml]; exact hl.1) rfl dX1_init_1 (Nat.le_of_ble_eq_true rfl) (Nat.le_of_ble_eq_true rfl) ?_
  refine W.eq (g2 := F0 m 4 ls []) rfl ?_
  refine lv_aload_n hx hb dX1_init_4 rfl (lv_at hl 0 rfl) ?_
  refine lv_bipush (v := nI 64) hx hb dX1_init_5 (by decide) ?_
  refine th_newI (n := 64) hx hb hts tw_1_61 hK hP hD hS hA9 (by omega) (Nat.le_of_ble_eq_true rfl) (Nat.le_of_ble_eq_true rfl) dX1_init_7 (fun qa_1 H hP hD hS => ?_)
  have hP : va_P Y.1 vwCl [(km, .inr (1, [.null, .null])), (qa_1, .inl (Y.2 0, 64, .inl (fun _ => nI 0)))] _ := hP
  have hD : va_D _ [(km, .inr (1, [.null, .null])), (qa_1, .inl (Y.2 0, 64, .inl (fun _ => nI 0)))] := hD
  refine va_putF (D := Y.1) (ci := 1) (v := .ref qa_1) (ty := .array .int) (C := RX1) (T := TX1) (N := 2) hx hb hts inX1 tyX1 tyX1_ok nmX1 hown hK hP hD hS 0 rfl rfl 0 (by decide) (hts _ tw_1_80) (fun _ h9 => h9) rfl hnm rfl (by decide +kernel) rfl rfl (Nat.le_of_ble_eq_true rfl) dX1_init_9 (fun H locs hP hD hS => ?_)
  have hP : va_P Y.1 vwCl [(km, .inr (1, [.ref qa_1, .null])), (qa_1, .inl (Y.2 0, 64, .inl (fun _ => nI 0)))] _ := hP
  have hD : va_D _ [(km, .inr (1, [.ref qa_1, .null])), (qa_1, .inl (Y.2 0, 64, .inl (fun _ => nI 0)))] := hD
  refine lv_aload_n hx hb dX1_init_12 rfl (lv_at hl 0 rfl) ?_
  refine lv_sipush (v := nI 128) hx hb dX1_init_13 (by decide) ?_
  refine th_newI (n := 128) hx hb hts tw_1_61 hK hP hD hS hA9 (by omega) (Nat.le_of_ble_eq_true rfl) (Nat.le_of_ble_eq_true rfl) dX1_init_16 (fun qa_2 H hP hD hS => ?_)
  have hP : va_P Y.1 vwCl [(km, .inr (1, [.ref qa_1, .null])), (qa_1, .inl (Y.2 0, 64, .inl (fun _ => nI 0))), (qa_2, .inl (Y.2 0, 128, .inl (fun _ => nI 0)))] _ := hP
  have hD : va_D _ [(km, .inr (1, [.ref qa_1, .null])), (qa_1, .inl (Y.2 0, 64, .inl (fun _ => nI 0))), (qa_2, .inl (Y.2 0, 128, .inl (fun _ => nI 0)))] := hD
  refine va_putF (D := Y.1) (ci := 1) (v := .ref qa_2) (ty := .array .int) (C := RX1) (T := TX1) (N := 2) hx hb hts inX1 tyX1 tyX1_ok nmX1 hown hK hP hD hS 0 rfl rfl 1 (by decide) (hts _ tw_1_81) (fun _ h9 => h9) rfl hnm rfl (by decide +kernel) rfl rfl (Nat.le_of_ble_eq_true rfl) dX1_init_18 (fun H locs hP hD hS => ?_)
  have hP : va_P Y.1 vwCl [(km, .inr (1, [.ref qa_1, .ref qa_2])), (qa_1, .inl (Y.2 0, 64, .inl (fun _ => nI 0))), (qa_2, .inl (Y.2 0, 128, .inl (fun _ => nI 0)))] _ := hP
  have hD : va_D _ [(km, .inr (1, [.ref qa_1, .ref qa_2])), (qa_1, .inl (Y.2 0, 64, .inl (fun _ => nI 0))), (qa_2, .inl (Y.2 0, 128, .inl (fun _ => nI 0)))] := hD
  refine lv_iconst (v := nI 0) hx hb dX1_init_21 (by decide) ?_
  refine lv_istore_n (lv' := [(1, .int (nI 0)), (0, .ref km)]) hx hb dX1_init_22 rfl hl (by decide) rfl (fun ls hl => ?_)
  have lp_3 : ∀ (n_4 : Nat) (j : Nat) (kv : Nat → Int32) (H : Heap) (locs : List Loc) (ls : Array Slot), 64 - j < n_4 → (j ≤ 64) → (∀ i, i < j → kv i = -1) → va_P Y.1 vwCl [(km, .inr (1, [.ref qa_1, .ref qa_2])), (qa_1, .inl (Y.2 0, 64, .inl kv)), (qa_2, .inl (Y.2 0, 128, .inl (fun _ => nI 0)))] H → va_D (fun q => q = km ∨ H0.size ≤ q) [(km, .inr (1, [.ref qa_1, .ref qa_2])), (qa_1, .inl (Y.2 0, 64, .inl kv)), (qa_2, .inl (Y.2 0, 128, .inl (fun _ => nI 0)))] → va_S (fun q => q = km ∨ H0.size ≤ q) H0 H locs → lv_has ls 2 [(0, .ref km), (1, .int (nI j))] → W p l e (th_rm 0 2 192) s m args below meth c H locs 2 192 Q (F0 m 23 ls []) := by
    intro n_4; induction n_4 with
    | zero => intros; exfalso; omega
    | succ n_4 ih =>
      intro j kv H locs ls hmz hj hk9 hP hD hS hl
      refine lv_iload_n hx hb dX1_init_23 rfl (lv_at hl 1 rfl) ?_
      refine lv_aload_n hx hb dX1_init_24 rfl (lv_at hl 0 rfl) ?_
      refine va_get (D := Y.1) (ci := 1) (v := .ref qa_1) (C := RX1) (T := TX1) (N := 2) hx hb hts inX1 hown hK hP 0 rfl rfl 0 (by decide) (hts _ tw_1_80) (fun _ h9 => h9) rfl dX1_init_25 ?_
      refine va_alen (v := nI 64) hx hb hK hP 1 0 rfl rfl rfl dX1_init_28 ?_
      refine th_ige (tgt := 45) hx hb dX1_init_29 (by decide) (by omega) (by omega) (fun c_5 => ?_) (fun c_5 => ?_)
      · skip
        refine th_vret hx hb hr hlk hQ hS dX1_init_45 (Nat.le_of_ble_eq_true rfl) (Nat.le_of_ble_eq_true rfl) ?_
        exact ⟨rfl, _, _, _, hP, hD, fun i hi => hk9 i (by omega)⟩
      refine lv_aload_n hx hb dX1_init_32 rfl (lv_at hl 0 rfl) ?_
      refine va_get (D := Y.1) (ci := 1) (v := .ref qa_1) (C := RX1) (T := TX1) (N := 2) hx hb hts inX1 hown hK hP 0 rfl rfl 0 (by decide) (hts _ tw_1_80) (fun _ h9 => h9) rfl dX1_init_33 ?_
      refine lv_iload_n hx hb dX1_init_36 rfl (lv_at hl 1 rfl) ?_
      refine lv_iconst (v := -1) hx hb dX1_init_37 (by decide) ?_
      refine th_iast hx hb hK hP hD hS 1 rfl (j := j) (by omega) (by omega) dX1_init_38 (fun H locs hP hD hS => ?_)
      have hP : va_P Y.1 vwCl [(km, .inr (1, [.ref qa_1, .ref qa_2])), (qa_1, .inl (Y.2 0, 64, .inl (upd kv j (-1)))), (qa_2, .inl (Y.2 0, 128, .inl (fun _ => nI 0)))] _ := hP
      have hD : va_D _ [(km, .inr (1, [.ref qa_1, .ref qa_2])), (qa_1, .inl (Y.2 0, 64, .inl (upd kv j (-1)))), (qa_2, .inl (Y.2 0, 128, .inl (fun _ => nI 0)))] := hD
      refine lv_iinc (v := nI (j + 1)) (lv' := [(1, .int (nI (j + 1))), (0, .ref km)]) hx hb dX1_init_39 hl (k := 1) rfl (nI_add _ 1) (by decide) rfl (fun ls hl => ?_)
      refine lv_goto (tgt := 23) hx hb dX1_init_42 (by decide) ?_
      exact ih (j + 1) (upd kv j (-1)) _ _ _ (by omega) (by omega) (fun i hi => by by_cases z : i = j; (subst z; exact pk_us); (rw [pk_un z]; exact hk9 i (by omega))) hP hD hS (lv_sub hl [1, 0] rfl)
  exact lp_3 ((64 - (0)) + 1) (0) ((fun _ => nI 0)) _ _ _ (Nat.lt_succ_self _) (by omega) (fun i hi => by omega) hP hD hS (lv_sub hl [1, 0] rfl)

set_option maxRecDepth 100000 in
set_option maxHeartbeats 4000000 in
theorem c_X3_init (l : Launch) (Y : th_Y) (H0 : Heap) (wo : Nat) (hP : va_P Y.1 vwCl [(wo, .inr (3, [.null, .int (nI 0), .int (nI 0), .int (nI 0), .int (nI 0), .int (nI 0)]))] H0) : th_M l Y yX3_init cX3_init 1 none (th_rm 0 0 0) [.ref wo] H0 (fun q => q = wo ∨ H0.size ≤ q) (fun r' H' => r' = none ∧  va_P Y.1 vwCl [(wo, .inr (3, [.null, .int (-1), .int (-1), .int (nI 0), .int (-1), .int (nI 0)]))] H' ∧ va_D (fun q => q = wo ∨ H0.size ≤ q) [(wo, .inr (3, [.null, .int (-1), .int (-1), .int (nI 0), .int (-1), .int (nI 0)]))]) := by
  refine th_M.intro (by decide) (Nat.le_of_ble_eq_true rfl) ?_
  intro p e s m args below meth c ls Q hQ C hKN hl hS
  obtain ⟨hx, hb, hr, hml, hown, hts, hlk, hnm⟩ := C
  obtain ⟨hK, hN⟩ := hKN
  have hown : s.vm.findClass RX3 = some m.cls := hown
  have hl : lv_has ls 1 [(0, .ref wo)] := hl
  have hA9 : ∀ q : Nat, H0.size ≤ q → (fun q => q = wo ∨ H0.size ≤ q) q := fun _ h => Or.inr h
  have hD : va_D (fun q => q = wo ∨ H0.size ≤ q) [(wo, .inr (3, [.null, .int (nI 0), .int (nI 0), .int (nI 0), .int (nI 0), .int (nI 0)]))] := th_D1 (Or.inl rfl)
  refine lv_aload_n hx hb dX3_init_0 rfl (lv_at hl 0 rfl) ?_
  refine W.objInit hx hb hown (hts _ tw_1_108) (hts _ tw_1_20) (hts _ tw_1_21) rfl (by rw [hml]; exact hl.1) rfl dX3_init_1 (Nat.le_of_ble_eq_true rfl) (Nat.le_of_ble_eq_true rfl) ?_
  refine W.eq (g2 := F0 m 4 ls []) rfl ?_
  refine lv_aload_n hx hb dX3_init_4 rfl (lv_at hl 0 rfl) ?_
  refine lv_iconst (v := -1) hx hb dX3_init_5 (by decide) ?_
  refine va_put (D := Y.1) (ci := 3) (v := .int (-1)) (ty := .int) (C := RX3) (T := TX3) (N := 6) hx hb hts inX3 tyX3 tyX3_ok nmX3 hown hK hP hD hS 0 rfl rfl 1 (by decide) (hts _ tw_1_110) (fun _ h9 => h9) rfl (by decide +kernel) rfl rfl (Nat.le_of_ble_eq_true rfl) dX3_init_6 (fun H locs hP hD hS => ?_)
  have hP : va_P Y.1 vwCl [(wo, .inr (3, [.null, .int (-1), .int (nI 0), .int (nI 0), .int (nI 0), .int (nI 0)]))] _ := hP
  have hD : va_D _ [(wo, .inr (3, [.null, .int (-1), .int (nI 0), .int (nI 0), .int (nI 0), .int (nI 0)]))] := hD
  refine lv_aload_n hx hb dX3_init_9 rfl (lv_at hl 0 rfl) ?_
  refine lv_iconst (v := -1) hx hb dX3_init_10 (by decide) ?_
  refine va_put (D := Y.1) (ci := 3) (v := .int (-1)) (ty := .int) (C := RX3) (T := TX3) (N := 6) hx hb hts inX3 tyX3 tyX3_ok nmX3 hown hK hP hD hS 0 rfl rfl 2 (by decide) (hts _ tw_1_112) (fun _ h9 => h9) rfl (by decide +kernel) rfl rfl (Nat.le_of_ble_eq_true rfl) dX3_init_11 (fun H locs hP hD hS => ?_)
  have hP : va_P Y.1 vwCl [(wo, .inr (3, [.null, .int (-1), .int (-1), .int (nI 0), .int (nI 0), .int (nI 0)]))] _ := hP
  have hD : va_D _ [(wo, .inr (3, [.null, .int (-1), .int (-1), .int (nI 0), .int (nI 0), .int (nI 0)]))] := hD
  refine lv_aload_n hx hb dX3_init_14 rfl (lv_at hl 0 rfl) ?_
  refine lv_iconst (v := -1) hx hb dX3_init_15 (by decide) ?_
  refine va_put (D := Y.1) (ci := 3) (v := .int (-1)) (ty := .int) (C := RX3) (T := TX3) (N := 6) hx hb hts inX3 tyX3 tyX3_ok nmX3 hown hK hP hD hS 0 rfl rfl 4 (by decide) (hts _ tw_1_116) (fun _ h9 => h9) rfl (by decide +kernel) rfl rfl (Nat.le_of_ble_eq_true rfl) dX3_init_16 (fun H locs hP hD hS => ?_)
  have hP : va_P Y.1 vwCl [(wo, .inr (3, [.null, .int (-1), .int (-1), .int (nI 0), .int (-1), .int (nI 0)]))] _ := hP
  have hD : va_D _ [(wo, .inr (3, [.null, .int (-1), .int (-1), .int (nI 0), .int (-1), .int (nI 0)]))] := hD
  refine th_vret hx hb hr hlk hQ hS dX3_init_19 (Nat.le_of_ble_eq_true rfl) (Nat.le_of_ble_eq_true rfl) ?_
  exact ⟨rfl, hP, hD⟩

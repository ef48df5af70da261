set_option maxRecDepth 100000 in
set_option maxHeartbeats 400000 in
theorem c_X6_in (l : Launch) (Y : th_Y) (H : Heap) (x lo hi : Int32) : th_P l Y yX6_in cX6_in 3 (some .boolean) (th_rm 0 0 0) [.int x, .int lo, .int hi] H (fun r9 => r9 = some (.int (th_b (lo ≤ x ∧ x ≤ hi)))) := by
  refine th_M.intro (by decide) (Nat.le_of_ble_eq_true rfl) ?_
  intro p e s m args below meth c ls Q hQ C hKN hl hS
  obtain ⟨hx, hb, hr, hml, hown, hts, hlk, hnm⟩ := C
  obtain ⟨hK, hN⟩ := hKN
  have hown : s.vm.findClass RX6 = some m.cls := hown
  have hl : lv_has ls 3 [(0, .int x), (1, .int lo), (2, .int hi)] := hl
  refine lv_iload_n hx hb dX6_in_0 rfl (lv_at hl 0 rfl) ?_
  refine lv_iload_n hx hb dX6_in_1 rfl (lv_at hl 1 rfl) ?_
  refine lv_icmp_lt (tgt := 14) hx hb dX6_in_2 (by decide) (fun c_1 => ?_) (fun c_1 => ?_)
  · skip
    refine lv_iconst (v := nI 0) hx hb dX6_in_14 (by decide) ?_
    refine th_zret hx hb hr hlk hQ hS dX6_in_15 (Nat.le_of_ble_eq_true rfl) (Nat.le_of_ble_eq_true rfl) (by first | exact Or.inl rfl | exact Or.inr rfl | assumption | exact th_b01 _) ?_
    exact ⟨by rw [th_bF (fun z9 => th_gtn c_1 z9.1)], rfl⟩
  refine lv_iload_n hx hb dX6_in_5 rfl (lv_at hl 0 rfl) ?_
  refine lv_iload_n hx hb dX6_in_6 rfl (lv_at hl 2 rfl) ?_
  refine lv_icmp_gt (tgt := 14) hx hb dX6_in_7 (by decide) (fun c_2 => ?_) (fun c_2 => ?_)
  · skip
    refine lv_iconst (v := nI 0) hx hb dX6_in_14 (by decide) ?_
    refine th_zret hx hb hr hlk hQ hS dX6_in_15 (Nat.le_of_ble_eq_true rfl) (Nat.le_of_ble_eq_true rfl) (by first | exact Or.inl rfl | exact Or.inr rfl | assumption | exact th_b01 _) ?_
    exact ⟨by rw [th_bF (fun z9 => th_gtn c_2 z9.2)], rfl⟩
  refine lv_iconst (v := nI 1) hx hb dX6_in_10 (by decide) ?_
  refine lv_goto (tgt := 15) hx hb dX6_in_11 (by decide) ?_
  refine th_zret hx hb hr hlk hQ hS dX6_in_15 (Nat.le_of_ble_eq_true rfl) (Nat.le_of_ble_eq_true rfl) (by first | exact Or.inl rfl | exact Or.inr rfl | assumption | exact th_b01 _) ?_
  exact ⟨by rw [th_bT ⟨th_nlt c_1, th_nlt c_2⟩], rfl⟩

set_option maxRecDepth 100000 in
set_option maxHeartbeats 400000 in
theorem c_X6_isValue (l : Launch) (Y : th_Y) (H : Heap) (x : Int32) : th_P l Y yX6_isValue cX6_isValue 1 (some .boolean) (th_rm 1 0 0) [.int x] H (fun r9 => r9 = some (.int (th_b (th_ir x 0 65536)))) := by
  refine th_M.intro (by decide) (Nat.le_of_ble_eq_true rfl) ?_
  intro p e s m args below meth c ls Q hQ C hKN hl hS
  obtain ⟨hx, hb, hr, hml, hown, hts, hlk, hnm⟩ := C
  obtain ⟨hK, hN⟩ := hKN
  have hown : s.vm.findClass RX6 = some m.cls := hown
  have hl : lv_has ls 1 [(0, .int x)] := hl
  refine lv_iload_n hx hb dX6_isValue_0 rfl (lv_at hl 0 rfl) ?_
  refine lv_iconst (v := nI 0) hx hb dX6_isValue_1 (by decide) ?_
  refine lv_ldc hx hb hown (hts _ tw_4_0) dX6_isValue_2 ?_
  refine th_ti (show (65535 : Int32) = nI 65535 from rfl) ?_
  refine th_callS hx hb hml hown hts ⟨hK, hN⟩ hl hS (rest := []) (c_X6_in l Y _ x (nI 0) (nI 65535)) ok_X6_in tw_3_234 dX6_isValue_4 rfl rfl (Nat.le_of_ble_eq_true rfl) ⟨Nat.le_of_ble_eq_true rfl, Nat.le_of_ble_eq_true rfl⟩ ⟨Nat.le_of_ble_eq_true rfl, Nat.le_of_ble_eq_true rfl⟩ (fun _ h => h.elim) (th_kpi (fun locs hS => ?_))
  refine th_zret hx hb hr hlk hQ hS dX6_isValue_7 (Nat.le_of_ble_eq_true rfl) (Nat.le_of_ble_eq_true rfl) (by first | exact Or.inl rfl | exact Or.inr rfl | assumption | exact th_b01 _) ?_
  exact ⟨by rw [th_bE (th_irP (by decide) (by decide))], rfl⟩

set_option maxRecDepth 100000 in
set_option maxHeartbeats 400000 in
theorem c_X6_isKey (l : Launch) (Y : th_Y) (H : Heap) (x : Int32) : th_P l Y yX6_isKey cX6_isKey 1 (some .boolean) (th_rm 1 0 0) [.int x] H (fun r9 => r9 = some (.int (th_b (th_ir x 0 64)))) := by
  refine th_M.intro (by decide) (Nat.le_of_ble_eq_true rfl) ?_
  intro p e s m args below meth c ls Q hQ C hKN hl hS
  obtain ⟨hx, hb, hr, hml, hown, hts, hlk, hnm⟩ := C
  obtain ⟨hK, hN⟩ := hKN
  have hown : s.vm.findClass RX6 = some m.cls := hown
  have hl : lv_has ls 1 [(0, .int x)] := hl
  refine lv_iload_n hx hb dX6_isKey_0 rfl (lv_at hl 0 rfl) ?_
  refine lv_iconst (v := nI 0) hx hb dX6_isKey_1 (by decide) ?_
  refine lv_bipush (v := nI 63) hx hb dX6_isKey_2 (by decide) ?_
  refine th_callS hx hb hml hown hts ⟨hK, hN⟩ hl hS (rest := []) (c_X6_in l Y _ x (nI 0) (nI 63)) ok_X6_in tw_3_234 dX6_isKey_4 rfl rfl (Nat.le_of_ble_eq_true rfl) ⟨Nat.le_of_ble_eq_true rfl, Nat.le_of_ble_eq_true rfl⟩ ⟨Nat.le_of_ble_eq_true rfl, Nat.le_of_ble_eq_true rfl⟩ (fun _ h => h.elim) (th_kpi (fun locs hS => ?_))
  refine th_zret hx hb hr hlk hQ hS dX6_isKey_7 (Nat.le_of_ble_eq_true rfl) (Nat.le_of_ble_eq_true rfl) (by first | exact Or.inl rfl | exact Or.inr rfl | assumption | exact th_b01 _) ?_
  exact ⟨by rw [th_bE (th_irP (by decide) (by decide))], rfl⟩

set_option maxRecDepth 100000 in
set_option maxHeartbeats 400000 in
theorem c_X6_isWatcher (l : Launch) (Y : th_Y) (H : Heap) (x : Int32) : th_P l Y yX6_isWatcher cX6_isWatcher 1 (some .boolean) (th_rm 1 0 0) [.int x] H (fun r9 => r9 = some (.int (th_b (th_ir x 0 4)))) := by
  refine th_M.intro (by decide) (Nat.le_of_ble_eq_true rfl) ?_
  intro p e s m args below meth c ls Q hQ C hKN hl hS
  obtain ⟨hx, hb, hr, hml, hown, hts, hlk, hnm⟩ := C
  obtain ⟨hK, hN⟩ := hKN
  have hown : s.vm.findClass RX6 = some m.cls := hown
  have hl : lv_has ls 1 [(0, .int x)] := hl
  refine lv_iload_n hx hb dX6_isWatcher_0 rfl (lv_at hl 0 rfl) ?_
  refine lv_iconst (v := nI 0) hx hb dX6_isWatcher_1 (by decide) ?_
  refine lv_iconst (v := nI 3) hx hb dX6_isWatcher_2 (by decide) ?_
  refine th_callS hx hb hml hown hts ⟨hK, hN⟩ hl hS (rest := []) (c_X6_in l Y _ x (nI 0) (nI 3)) ok_X6_in tw_3_234 dX6_isWatcher_3 rfl rfl (Nat.le_of_ble_eq_true rfl) ⟨Nat.le_of_ble_eq_true rfl, Nat.le_of_ble_eq_true rfl⟩ ⟨Nat.le_of_ble_eq_true rfl, Nat.le_of_ble_eq_true rfl⟩ (fun _ h => h.elim) (th_kpi (fun locs hS => ?_))
  refine th_zret hx hb hr hlk hQ hS dX6_isWatcher_6 (Nat.le_of_ble_eq_true rfl) (Nat.le_of_ble_eq_true rfl) (by first | exact Or.inl rfl | exact Or.inr rfl | assumption | exact th_b01 _) ?_
  exact ⟨by rw [th_bE (th_irP (by decide) (by decide))], rfl⟩

set_option maxRecDepth 100000 in
set_option maxHeartbeats 400000 in
theorem c_X6_isView (l : Launch) (Y : th_Y) (H : Heap) (ro : Nat → Nat) (thr stp efr esz etr : Int32) (vw sm : Nat) (hP : va_P Y.1 vwCl [(ro 0, .inr (6, [.int thr, .ref (ro 1), .ref (ro 2), .int (nI vw), .ref (ro 3), .ref (ro 4), .ref (ro 5), .int (nI sm), .ref (ro 6), .ref (ro 7), .int stp, .int efr, .int esz, .int etr, .ref (ro 8), .ref (ro 9), .ref (ro 10), .ref (ro 11), .ref (ro 12), .ref (ro 13), .ref (ro 14), .ref (ro 15)]))] H) (h1 : 1 ≤ vw) (h3 : vw ≤ 3) (x : Int32) : th_P l Y yX6_isView cX6_isView 2 (some .boolean) (th_rm 1 0 0) [.ref (ro 0), .int x] H (fun r9 => r9 = some (.int (th_b (th_ir x 0 vw)))) := by
  refine th_M.intro (by decide) (Nat.le_of_ble_eq_true rfl) ?_
  intro p e s m args below meth c ls Q hQ C hKN hl hS
  obtain ⟨hx, hb, hr, hml, hown, hts, hlk, hnm⟩ := C
  obtain ⟨hK, hN⟩ := hKN
  have hown : s.vm.findClass RX6 = some m.cls := hown
  have hl : lv_has ls 2 [(0, .ref (ro 0)), (1, .int x)] := hl
  refine lv_iload_n hx hb dX6_isView_0 rfl (lv_at hl 1 rfl) ?_
  refine lv_iconst (v := nI 0) hx hb dX6_isView_1 (by decide) ?_
  refine lv_aload_n hx hb dX6_isView_2 rfl (lv_at hl 0 rfl) ?_
  refine va_get (D := Y.1) (ci := 6) (v := .int (nI vw)) (C := RX6) (T := TX6) (N := 22) hx hb hts inX6 hown hK hP 0 rfl rfl 3 (by decide) (hts _ tw_3_158) (fun _ h9 => h9) rfl dX6_isView_3 ?_
  refine lv_iconst (v := nI 1) hx hb dX6_isView_6 (by decide) ?_
  refine lv_isub hx hb dX6_isView_7 ?_
  refine th_ti (pk_sub (by omega)) ?_
  refine th_callS hx hb hml hown hts ⟨hK, hN⟩ hl hS (rest := []) (c_X6_in l Y _ x (nI 0) (nI (vw - 1))) ok_X6_in tw_3_234 dX6_isView_8 rfl rfl (Nat.le_of_ble_eq_true rfl) ⟨Nat.le_of_ble_eq_true rfl, Nat.le_of_ble_eq_true rfl⟩ ⟨Nat.le_of_ble_eq_true rfl, Nat.le_of_ble_eq_true rfl⟩ (fun _ h => h.elim) (th_kpi (fun locs hS => ?_))
  refine th_zret hx hb hr hlk hQ hS dX6_isView_11 (Nat.le_of_ble_eq_true rfl) (Nat.le_of_ble_eq_true rfl) (by first | exact Or.inl rfl | exact Or.inr rfl | assumption | exact th_b01 _) ?_
  exact ⟨by rw [th_bE (th_irP (by decide) (by omega)), show vw - 1 + 1 = vw by omega], rfl⟩

set_option maxRecDepth 100000 in
set_option maxHeartbeats 400000 in
theorem c_X6_isSize (l : Launch) (Y : th_Y) (H : Heap) (ro : Nat → Nat) (thr stp efr esz etr : Int32) (vw sm : Nat) (siz : Nat → Int32) (hP : va_P Y.1 vwCl [(ro 0, .inr (6, [.int thr, .ref (ro 1), .ref (ro 2), .int (nI vw), .ref (ro 3), .ref (ro 4), .ref (ro 5), .int (nI sm), .ref (ro 6), .ref (ro 7), .int stp, .int efr, .int esz, .int etr, .ref (ro 8), .ref (ro 9), .ref (ro 10), .ref (ro 11), .ref (ro 12), .ref (ro 13), .ref (ro 14), .ref (ro 15)])), (ro 2, .inl (Y.2 0, 3, .inl siz))] H) (i n : Nat) (hi : i < 3) (hsi : siz i = nI n) (hn : n ≤ 100) (x : Int32) : th_P l Y yX6_isSize cX6_isSize 3 (some .boolean) (th_rm 1 0 0) [.ref (ro 0), .int (nI i), .int x] H (fun r9 => r9 = some (.int (th_b (th_ir x 1 (n + 1))))) := by
  refine th_M.intro (by decide) (Nat.le_of_ble_eq_true rfl) ?_
  intro p e s m args below meth c ls Q hQ C hKN hl hS
  obtain ⟨hx, hb, hr, hml, hown, hts, hlk, hnm⟩ := C
  obtain ⟨hK, hN⟩ := hKN
  have hown : s.vm.findClass RX6 = some m.cls := hown
  have hl : lv_has ls 3 [(0, .ref (ro 0)), (1, .int (nI i)), (2, .int x)] := hl
  refine lv_iload_n hx hb dX6_isSize_0 rfl (lv_at hl 2 rfl) ?_
  refine lv_iconst (v := nI 1) hx hb dX6_isSize_1 (by decide) ?_
  refine lv_aload_n hx hb dX6_isSize_2 rfl (lv_at hl 0 rfl) ?_
  refine va_get (D := Y.1) (ci := 6) (v := .ref (ro 2)) (C := RX6) (T := TX6) (N := 22) hx hb hts inX6 hown hK hP 0 rfl rfl 2 (by decide) (hts _ tw_3_157) (fun _ h9 => h9) rfl dX6_isSize_3 ?_
  refine lv_iload_n hx hb dX6_isSize_6 rfl (lv_at hl 1 rfl) ?_
  refine th_iald hx hb hK hP 1 rfl (j := i) (by omega) (by omega) dX6_isSize_7 ?_
  refine th_ti (show siz i = nI n from hsi) ?_
  refine th_callS hx hb hml hown hts ⟨hK, hN⟩ hl hS (rest := []) (c_X6_in l Y _ x (nI 1) (nI n)) ok_X6_in tw_3_234 dX6_isSize_8 rfl rfl (Nat.le_of_ble_eq_true rfl) ⟨Nat.le_of_ble_eq_true rfl, Nat.le_of_ble_eq_true rfl⟩ ⟨Nat.le_of_ble_eq_true rfl, Nat.le_of_ble_eq_true rfl⟩ (fun _ h => h.elim) (th_kpi (fun locs hS => ?_))
  refine th_zret hx hb hr hlk hQ hS dX6_isSize_11 (Nat.le_of_ble_eq_true rfl) (Nat.le_of_ble_eq_true rfl) (by first | exact Or.inl rfl | exact Or.inr rfl | assumption | exact th_b01 _) ?_
  exact ⟨by rw [th_bE (th_irP (by decide) (by omega))], rfl⟩

set_option maxRecDepth 100000 in
set_option maxHeartbeats 400000 in
theorem c_X6_goesWell (l : Launch) (Y : th_Y) (H0 : Heap) (ro : Nat → Nat) (thr stp efr esz etr : Int32) (vw sm : Nat) (hP : va_P Y.1 vwCl [(ro 0, .inr (6, [.int thr, .ref (ro 1), .ref (ro 2), .int (nI vw), .ref (ro 3), .ref (ro 4), .ref (ro 5), .int (nI sm), .ref (ro 6), .ref (ro 7), .int stp, .int efr, .int esz, .int etr, .ref (ro 8), .ref (ro 9), .ref (ro 10), .ref (ro 11), .ref (ro 12), .ref (ro 13), .ref (ro 14), .ref (ro 15)]))] H0) (k : Nat) (hk : k ≤ 3) : th_M l Y yX6_goesWell cX6_goesWell 2 (some .boolean) (th_rm 0 0 0) [.ref (ro 0), .int (nI k)] H0 (fun z => z ∈ [ro 0]) (fun r' H' => ∃ x' : Int32, r' = some (.int x') ∧ x' = (if k = 0 then nI 1 else nI 0) ∧ va_P Y.1 vwCl [(ro 0, .inr (6, [.int (nI k), .ref (ro 1), .ref (ro 2), .int (nI vw), .ref (ro 3), .ref (ro 4), .ref (ro 5), .int (nI sm), .ref (ro 6), .ref (ro 7), .int stp, .int efr, .int esz, .int etr, .ref (ro 8), .ref (ro 9), .ref (ro 10), .ref (ro 11), .ref (ro 12), .ref (ro 13), .ref (ro 14), .ref (ro 15)]))] H') := by
  refine th_M.intro (by decide) (Nat.le_of_ble_eq_true rfl) ?_
  intro p e s m args below meth c ls Q hQ C hKN hl hS
  obtain ⟨hx, hb, hr, hml, hown, hts, hlk, hnm⟩ := C
  obtain ⟨hK, hN⟩ := hKN
  have hown : s.vm.findClass RX6 = some m.cls := hown
  have hl : lv_has ls 2 [(0, .ref (ro 0)), (1, .int (nI k))] := hl
  have hD : va_D (fun z => z ∈ [ro 0]) [(ro 0, .inr (6, [.int thr, .ref (ro 1), .ref (ro 2), .int (nI vw), .ref (ro 3), .ref (ro 4), .ref (ro 5), .int (nI sm), .ref (ro 6), .ref (ro 7), .int stp, .int efr, .int esz, .int etr, .ref (ro 8), .ref (ro 9), .ref (ro 10), .ref (ro 11), .ref (ro 12), .ref (ro 13), .ref (ro 14), .ref (ro 15)]))] := th_D1 (List.mem_cons_self)
  refine lv_aload_n hx hb dX6_goesWell_0 rfl (lv_at hl 0 rfl) ?_
  refine lv_iload_n hx hb dX6_goesWell_1 rfl (lv_at hl 1 rfl) ?_
  refine va_put (D := Y.1) (ci := 6) (v := .int (nI k)) (ty := .int) (C := RX6) (T := TX6) (N := 22) hx hb hts inX6 tyX6 tyX6_ok nmX6 hown hK hP hD hS 0 rfl rfl 0 (by decide) (hts _ tw_3_155) (fun _ h9 => h9) rfl (by decide +kernel) rfl rfl (Nat.le_of_ble_eq_true rfl) dX6_goesWell_2 (fun H locs hP hD hS => ?_)
  have hP : va_P Y.1 vwCl [(ro 0, .inr (6, [.int (nI k), .ref (ro 1), .ref (ro 2), .int (nI vw), .ref (ro 3), .ref (ro 4), .ref (ro 5), .int (nI sm), .ref (ro 6), .ref (ro 7), .int stp, .int efr, .int esz, .int etr, .ref (ro 8), .ref (ro 9), .ref (ro 10), .ref (ro 11), .ref (ro 12), .ref (ro 13), .ref (ro 14), .ref (ro 15)]))] _ := hP
  have hD : va_D _ [(ro 0, .inr (6, [.int (nI k), .ref (ro 1), .ref (ro 2), .int (nI vw), .ref (ro 3), .ref (ro 4), .ref (ro 5), .int (nI sm), .ref (ro 6), .ref (ro 7), .int stp, .int efr, .int esz, .int etr, .ref (ro 8), .ref (ro 9), .ref (ro 10), .ref (ro 11), .ref (ro 12), .ref (ro 13), .ref (ro 14), .ref (ro 15)]))] := hD
  refine lv_iload_n hx hb dX6_goesWell_5 rfl (lv_at hl 1 rfl) ?_
  refine th_zne (tgt := 13) hx hb dX6_goesWell_6 (by decide) (by omega) (fun c_1 => ?_) (fun c_1 => ?_)
  · skip
    refine lv_iconst (v := nI 0) hx hb dX6_goesWell_13 (by decide) ?_
    refine th_zret hx hb hr hlk hQ hS dX6_goesWell_14 (Nat.le_of_ble_eq_true rfl) (Nat.le_of_ble_eq_true rfl) (by first | exact Or.inl rfl | exact Or.inr rfl | assumption | exact th_b01 _) ?_
    exact ⟨_, rfl, (if_neg c_1).symm, hP⟩
  refine lv_iconst (v := nI 1) hx hb dX6_goesWell_9 (by decide) ?_
  refine lv_goto (tgt := 14) hx hb dX6_goesWell_10 (by decide) ?_
  refine th_zret hx hb hr hlk hQ hS dX6_goesWell_14 (Nat.le_of_ble_eq_true rfl) (Nat.le_of_ble_eq_true rfl) (by first | exact Or.inl rfl | exact Or.inr rfl | assumption | exact th_b01 _) ?_
  exact ⟨_, rfl, (if_pos c_1).symm, hP⟩

set_option maxRecDepth 100000 in
set_option maxHeartbeats 400000 in
theorem c_X6_thrown (l : Launch) (Y : th_Y) (H : Heap) (ro : Nat → Nat) (thr stp efr esz etr : Int32) (vw sm : Nat) (hP : va_P Y.1 vwCl [(ro 0, .inr (6, [.int thr, .ref (ro 1), .ref (ro 2), .int (nI vw), .ref (ro 3), .ref (ro 4), .ref (ro 5), .int (nI sm), .ref (ro 6), .ref (ro 7), .int stp, .int efr, .int esz, .int etr, .ref (ro 8), .ref (ro 9), .ref (ro 10), .ref (ro 11), .ref (ro 12), .ref (ro 13), .ref (ro 14), .ref (ro 15)]))] H) : th_P l Y yX6_thrown cX6_thrown 1 (some .int) (th_rm 0 0 0) [.ref (ro 0)] H (fun r9 => r9 = some (.int thr)) := by
  refine th_M.intro (by decide) (Nat.le_of_ble_eq_true rfl) ?_
  intro p e s m args below meth c ls Q hQ C hKN hl hS
  obtain ⟨hx, hb, hr, hml, hown, hts, hlk, hnm⟩ := C
  obtain ⟨hK, hN⟩ := hKN
  have hown : s.vm.findClass RX6 = some m.cls := hown
  have hl : lv_has ls 1 [(0, .ref (ro 0))] := hl
  refine lv_aload_n hx hb dX6_thrown_0 rfl (lv_at hl 0 rfl) ?_
  refine va_get (D := Y.1) (ci := 6) (v := .int thr) (C := RX6) (T := TX6) (N := 22) hx hb hts inX6 hown hK hP 0 rfl rfl 0 (by decide) (hts _ tw_3_155) (fun _ h9 => h9) rfl dX6_thrown_1 ?_
  refine th_iret hx hb hr hlk hQ hS dX6_thrown_4 (Nat.le_of_ble_eq_true rfl) (Nat.le_of_ble_eq_true rfl) ?_
  exact ⟨rfl, rfl⟩

set_option maxRecDepth 100000 in
set_option maxHeartbeats 400000 in
theorem c_X6_views (l : Launch) (Y : th_Y) (H0 : Heap) (ro : Nat → Nat) (hJ : th_gJ ro 16) (S : th_S) (thr stp efr esz etr : Int32) (val siz tre spa pro bes isr key lev kvi ksz krt ala fol cts : Nat → Int32) (hP : va_P Y.1 vwCl [(ro 0, .inr (6, [.int thr, .ref (ro 1), .ref (ro 2), .int (nI S.1), .ref (ro 3), .ref (ro 4), .ref (ro 5), .int (nI S.2.2.2.1), .ref (ro 6), .ref (ro 7), .int stp, .int efr, .int esz, .int etr, .ref (ro 8), .ref (ro 9), .ref (ro 10), .ref (ro 11), .ref (ro 12), .ref (ro 13), .ref (ro 14), .ref (ro 15)])), (ro 1, .inl (Y.2 0, 300, .inl val)), (ro 2, .inl (Y.2 0, 3, .inl siz)), (ro 3, .inl (Y.2 0, 8, .inl tre)), (ro 4, .inl (Y.2 0, 8, .inl spa)), (ro 5, .inl (Y.2 0, 12, .inl pro)), (ro 6, .inl (Y.2 0, 12, .inl bes)), (ro 7, .inl (Y.2 1, 12, .inl isr)), (ro 8, .inl (Y.2 0, 64, .inl key)), (ro 9, .inl (Y.2 0, 64, .inl lev)), (ro 10, .inl (Y.2 0, 4, .inl kvi)), (ro 11, .inl (Y.2 0, 4, .inl ksz)), (ro 12, .inl (Y.2 0, 4, .inl krt)), (ro 13, .inl (Y.2 1, 4, .inl ala)), (ro 14, .inl (Y.2 0, 4, .inl fol)), (ro 15, .inl (Y.2 0, 4, .inl cts))] H0) (hv : th_RIv S val siz pro key kvi ksz krt ala fol cts) : th_M l Y yX6_views cX6_views 1 (some .int) (th_rm 6 0 0) [.ref (ro 0)] H0 (fun z => z ∈ [ro 0, ro 1, ro 2, ro 3, ro 4, ro 5, ro 6, ro 7, ro 8, ro 9, ro 10, ro 11, ro 12, ro 13, ro 14, ro 15]) (th_ro Y ro (sp_views S)) := by
  refine th_M.intro (by decide) (Nat.le_of_ble_eq_true rfl) ?_
  intro p e s m args below meth c ls Q hQ C hKN hl hS
  obtain ⟨hx, hb, hr, hml, hown, hts, hlk, hnm⟩ := C
  obtain ⟨hK, hN⟩ := hKN
  have hown : s.vm.findClass RX6 = some m.cls := hown
  have hl : lv_has ls 1 [(0, .ref (ro 0))] := hl
  have hD : va_D (fun z => z ∈ [ro 0, ro 1, ro 2, ro 3, ro 4, ro 5, ro 6, ro 7, ro 8, ro 9, ro 10, ro 11, ro 12, ro 13, ro 14, ro 15]) [(ro 0, .inr (6, [.int thr, .ref (ro 1), .ref (ro 2), .int (nI S.1), .ref (ro 3), .ref (ro 4), .ref (ro 5), .int (nI S.2.2.2.1), .ref (ro 6), .ref (ro 7), .int stp, .int efr, .int esz, .int etr, .ref (ro 8), .ref (ro 9), .ref (ro 10), .ref (ro 11), .ref (ro 12), .ref (ro 13), .ref (ro 14), .ref (ro 15)])), (ro 1, .inl (Y.2 0, 300, .inl val)), (ro 2, .inl (Y.2 0, 3, .inl siz)), (ro 3, .inl (Y.2 0, 8, .inl tre)), (ro 4, .inl (Y.2 0, 8, .inl spa)), (ro 5, .inl (Y.2 0, 12, .inl pro)), (ro 6, .inl (Y.2 0, 12, .inl bes)), (ro 7, .inl (Y.2 1, 12, .inl isr)), (ro 8, .inl (Y.2 0, 64, .inl key)), (ro 9, .inl (Y.2 0, 64, .inl lev)), (ro 10, .inl (Y.2 0, 4, .inl kvi)), (ro 11, .inl (Y.2 0, 4, .inl ksz)), (ro 12, .inl (Y.2 0, 4, .inl krt)), (ro 13, .inl (Y.2 1, 4, .inl ala)), (ro 14, .inl (Y.2 0, 4, .inl fol)), (ro 15, .inl (Y.2 0, 4, .inl cts))] := th_mem (th_gD hJ [0, 1, 2, 3, 4, 5, 6, 7, 8, 9, 10, 11, 12, 13, 14, 15] (fun k9 hk9 => by simp only [List.mem_cons, List.not_mem_nil, or_false] at hk9; omega) th_nd16 rfl)
  have hv1 := hv.1
  have hv12 := hv.2.2.1
  refine lv_aload_n hx hb dX6_views_0 rfl (lv_at hl 0 rfl) ?_
  refine lv_iconst (v := nI 0) hx hb dX6_views_1 (by decide) ?_
  refine va_put (D := Y.1) (ci := 6) (v := .int (nI 0)) (ty := .int) (C := RX6) (T := TX6) (N := 22) hx hb hts inX6 tyX6 tyX6_ok nmX6 hown hK hP hD hS 0 rfl rfl 0 (by decide) (hts _ tw_3_155) (fun _ h9 => h9) rfl (by decide +kernel) rfl rfl (Nat.le_of_ble_eq_true rfl) dX6_views_2 (fun H locs hP hD hS => ?_)
  have hP : va_P Y.1 vwCl [(ro 0, .inr (6, [.int (nI 0), .ref (ro 1), .ref (ro 2), .int (nI S.1), .ref (ro 3), .ref (ro 4), .ref (ro 5), .int (nI S.2.2.2.1), .ref (ro 6), .ref (ro 7), .int stp, .int efr, .int esz, .int etr, .ref (ro 8), .ref (ro 9), .ref (ro 10), .ref (ro 11), .ref (ro 12), .ref (ro 13), .ref (ro 14), .ref (ro 15)])), (ro 1, .inl (Y.2 0, 300, .inl val)), (ro 2, .inl (Y.2 0, 3, .inl siz)), (ro 3, .inl (Y.2 0, 8, .inl tre)), (ro 4, .inl (Y.2 0, 8, .inl spa)), (ro 5, .inl (Y.2 0, 12, .inl pro)), (ro 6, .inl (Y.2 0, 12, .inl bes)), (ro 7, .inl (Y.2 1, 12, .inl isr)), (ro 8, .inl (Y.2 0, 64, .inl key)), (ro 9, .inl (Y.2 0, 64, .inl lev)), (ro 10, .inl (Y.2 0, 4, .inl kvi)), (ro 11, .inl (Y.2 0, 4, .inl ksz)), (ro 12, .inl (Y.2 0, 4, .inl krt)), (ro 13, .inl (Y.2 1, 4, .inl ala)), (ro 14, .inl (Y.2 0, 4, .inl fol)), (ro 15, .inl (Y.2 0, 4, .inl cts))] _ := hP
  have hD : va_D _ [(ro 0, .inr (6, [.int (nI 0), .ref (ro 1), .ref (ro 2), .int (nI S.1), .ref (ro 3), .ref (ro 4), .ref (ro 5), .int (nI S.2.2.2.1), .ref (ro 6), .ref (ro 7), .int stp, .int efr, .int esz, .int etr, .ref (ro 8), .ref (ro 9), .ref (ro 10), .ref (ro 11), .ref (ro 12), .ref (ro 13), .ref (ro 14), .ref (ro 15)])), (ro 1, .inl (Y.2 0, 300, .inl val)), (ro 2, .inl (Y.2 0, 3, .inl siz)), (ro 3, .inl (Y.2 0, 8, .inl tre)), (ro 4, .inl (Y.2 0, 8, .inl spa)), (ro 5, .inl (Y.2 0, 12, .inl pro)), (ro 6, .inl (Y.2 0, 12, .inl bes)), (ro 7, .inl (Y.2 1, 12, .inl isr)), (ro 8, .inl (Y.2 0, 64, .inl key)), (ro 9, .inl (Y.2 0, 64, .inl lev)), (ro 10, .inl (Y.2 0, 4, .inl kvi)), (ro 11, .inl (Y.2 0, 4, .inl ksz)), (ro 12, .inl (Y.2 0, 4, .inl krt)), (ro 13, .inl (Y.2 1, 4, .inl ala)), (ro 14, .inl (Y.2 0, 4, .inl fol)), (ro 15, .inl (Y.2 0, 4, .inl cts))] := hD
  refine lv_aload_n hx hb dX6_views_5 rfl (lv_at hl 0 rfl) ?_
  refine va_get (D := Y.1) (ci := 6) (v := .int (nI S.1)) (C := RX6) (T := TX6) (N := 22) hx hb hts inX6 hown hK hP 0 rfl rfl 3 (by decide) (hts _ tw_3_158) (fun _ h9 => h9) rfl dX6_views_6 ?_
  refine th_iret hx hb hr hlk hQ hS dX6_views_9 (Nat.le_of_ble_eq_true rfl) (Nat.le_of_ble_eq_true rfl) ?_
  show th_ro Y ro (_) _ _
  unfold sp_views
  exact th_roT (rfl) (th_rgI hP (hv))
  

set_option maxRecDepth 100000 in
set_option maxHeartbeats 400000 in
theorem c_X6_sums (l : Launch) (Y : th_Y) (H0 : Heap) (ro : Nat → Nat) (hJ : th_gJ ro 16) (S : th_S) (thr stp efr esz etr : Int32) (val siz tre spa pro bes isr key lev kvi ksz krt ala fol cts : Nat → Int32) (hP : va_P Y.1 vwCl [(ro 0, .inr (6, [.int thr, .ref (ro 1), .ref (ro 2), .int (nI S.1), .ref (ro 3), .ref (ro 4), .ref (ro 5), .int (nI S.2.2.2.1), .ref (ro 6), .ref (ro 7), .int stp, .int efr, .int esz, .int etr, .ref (ro 8), .ref (ro 9), .ref (ro 10), .ref (ro 11), .ref (ro 12), .ref (ro 13), .ref (ro 14), .ref (ro 15)])), (ro 1, .inl (Y.2 0, 300, .inl val)), (ro 2, .inl (Y.2 0, 3, .inl siz)), (ro 3, .inl (Y.2 0, 8, .inl tre)), (ro 4, .inl (Y.2 0, 8, .inl spa)), (ro 5, .inl (Y.2 0, 12, .inl pro)), (ro 6, .inl (Y.2 0, 12, .inl bes)), (ro 7, .inl (Y.2 1, 12, .inl isr)), (ro 8, .inl (Y.2 0, 64, .inl key)), (ro 9, .inl (Y.2 0, 64, .inl lev)), (ro 10, .inl (Y.2 0, 4, .inl kvi)), (ro 11, .inl (Y.2 0, 4, .inl ksz)), (ro 12, .inl (Y.2 0, 4, .inl krt)), (ro 13, .inl (Y.2 1, 4, .inl ala)), (ro 14, .inl (Y.2 0, 4, .inl fol)), (ro 15, .inl (Y.2 0, 4, .inl cts))] H0) (hv : th_RIv S val siz pro key kvi ksz krt ala fol cts) : th_M l Y yX6_sums cX6_sums 1 (some .int) (th_rm 6 0 0) [.ref (ro 0)] H0 (fun z => z ∈ [ro 0, ro 1, ro 2, ro 3, ro 4, ro 5, ro 6, ro 7, ro 8, ro 9, ro 10, ro 11, ro 12, ro 13, ro 14, ro 15]) (th_ro Y ro (sp_sums S)) := by
  refine th_M.intro (by decide) (Nat.le_of_ble_eq_true rfl) ?_
  intro p e s m args below meth c ls Q hQ C hKN hl hS
  obtain ⟨hx, hb, hr, hml, hown, hts, hlk, hnm⟩ := C
  obtain ⟨hK, hN⟩ := hKN
  have hown : s.vm.findClass RX6 = some m.cls := hown
  have hl : lv_has ls 1 [(0, .ref (ro 0))] := hl
  have hD : va_D (fun z => z ∈ [ro 0, ro 1, ro 2, ro 3, ro 4, ro 5, ro 6, ro 7, ro 8, ro 9, ro 10, ro 11, ro 12, ro 13, ro 14, ro 15]) [(ro 0, .inr (6, [.int thr, .ref (ro 1), .ref (ro 2), .int (nI S.1), .ref (ro 3), .ref (ro 4), .ref (ro 5), .int (nI S.2.2.2.1), .ref (ro 6), .ref (ro 7), .int stp, .int efr, .int esz, .int etr, .ref (ro 8), .ref (ro 9), .ref (ro 10), .ref (ro 11), .ref (ro 12), .ref (ro 13), .ref (ro 14), .ref (ro 15)])), (ro 1, .inl (Y.2 0, 300, .inl val)), (ro 2, .inl (Y.2 0, 3, .inl siz)), (ro 3, .inl (Y.2 0, 8, .inl tre)), (ro 4, .inl (Y.2 0, 8, .inl spa)), (ro 5, .inl (Y.2 0, 12, .inl pro)), (ro 6, .inl (Y.2 0, 12, .inl bes)), (ro 7, .inl (Y.2 1, 12, .inl isr)), (ro 8, .inl (Y.2 0, 64, .inl key)), (ro 9, .inl (Y.2 0, 64, .inl lev)), (ro 10, .inl (Y.2 0, 4, .inl kvi)), (ro 11, .inl (Y.2 0, 4, .inl ksz)), (ro 12, .inl (Y.2 0, 4, .inl krt)), (ro 13, .inl (Y.2 1, 4, .inl ala)), (ro 14, .inl (Y.2 0, 4, .inl fol)), (ro 15, .inl (Y.2 0, 4, .inl cts))] := th_mem (th_gD hJ [0, 1, 2, 3, 4, 5, 6, 7, 8, 9, 10, 11, 12, 13, 14, 15] (fun k9 hk9 => by simp only [List.mem_cons, List.not_mem_nil, or_false] at hk9; omega) th_nd16 rfl)
  have hv1 := hv.1
  have hv12 := hv.2.2.1
  refine lv_aload_n hx hb dX6_sums_0 rfl (lv_at hl 0 rfl) ?_
  refine lv_iconst (v := nI 0) hx hb dX6_sums_1 (by decide) ?_
  refine va_put (D := Y.1) (ci := 6) (v := .int (nI 0)) (ty := .int) (C := RX6) (T := TX6) (N := 22) hx hb hts inX6 tyX6 tyX6_ok nmX6 hown hK hP hD hS 0 rfl rfl 0 (by decide) (hts _ tw_3_155) (fun _ h9 => h9) rfl (by decide +kernel) rfl rfl (Nat.le_of_ble_eq_true rfl) dX6_sums_2 (fun H locs hP hD hS => ?_)
  have hP : va_P Y.1 vwCl [(ro 0, .inr (6, [.int (nI 0), .ref (ro 1), .ref (ro 2), .int (nI S.1), .ref (ro 3), .ref (ro 4), .ref (ro 5), .int (nI S.2.2.2.1), .ref (ro 6), .ref (ro 7), .int stp, .int efr, .int esz, .int etr, .ref (ro 8), .ref (ro 9), .ref (ro 10), .ref (ro 11), .ref (ro 12), .ref (ro 13), .ref (ro 14), .ref (ro 15)])), (ro 1, .inl (Y.2 0, 300, .inl val)), (ro 2, .inl (Y.2 0, 3, .inl siz)), (ro 3, .inl (Y.2 0, 8, .inl tre)), (ro 4, .inl (Y.2 0, 8, .inl spa)), (ro 5, .inl (Y.2 0, 12, .inl pro)), (ro 6, .inl (Y.2 0, 12, .inl bes)), (ro 7, .inl (Y.2 1, 12, .inl isr)), (ro 8, .inl (Y.2 0, 64, .inl key)), (ro 9, .inl (Y.2 0, 64, .inl lev)), (ro 10, .inl (Y.2 0, 4, .inl kvi)), (ro 11, .inl (Y.2 0, 4, .inl ksz)), (ro 12, .inl (Y.2 0, 4, .inl krt)), (ro 13, .inl (Y.2 1, 4, .inl ala)), (ro 14, .inl (Y.2 0, 4, .inl fol)), (ro 15, .inl (Y.2 0, 4, .inl cts))] _ := hP
  have hD : va_D _ [(ro 0, .inr (6, [.int (nI 0), .ref (ro 1), .ref (ro 2), .int (nI S.1), .ref (ro 3), .ref (ro 4), .ref (ro 5), .int (nI S.2.2.2.1), .ref (ro 6), .ref (ro 7), .int stp, .int efr, .int esz, .int etr, .ref (ro 8), .ref (ro 9), .ref (ro 10), .ref (ro 11), .ref (ro 12), .ref (ro 13), .ref (ro 14), .ref (ro 15)])), (ro 1, .inl (Y.2 0, 300, .inl val)), (ro 2, .inl (Y.2 0, 3, .inl siz)), (ro 3, .inl (Y.2 0, 8, .inl tre)), (ro 4, .inl (Y.2 0, 8, .inl spa)), (ro 5, .inl (Y.2 0, 12, .inl pro)), (ro 6, .inl (Y.2 0, 12, .inl bes)), (ro 7, .inl (Y.2 1, 12, .inl isr)), (ro 8, .inl (Y.2 0, 64, .inl key)), (ro 9, .inl (Y.2 0, 64, .inl lev)), (ro 10, .inl (Y.2 0, 4, .inl kvi)), (ro 11, .inl (Y.2 0, 4, .inl ksz)), (ro 12, .inl (Y.2 0, 4, .inl krt)), (ro 13, .inl (Y.2 1, 4, .inl ala)), (ro 14, .inl (Y.2 0, 4, .inl fol)), (ro 15, .inl (Y.2 0, 4, .inl cts))] := hD
  refine lv_aload_n hx hb dX6_sums_5 rfl (lv_at hl 0 rfl) ?_
  refine va_get (D := Y.1) (ci := 6) (v := .int (nI S.2.2.2.1)) (C := RX6) (T := TX6) (N := 22) hx hb hts inX6 hown hK hP 0 rfl rfl 7 (by decide) (hts _ tw_3_162) (fun _ h9 => h9) rfl dX6_sums_6 ?_
  refine th_iret hx hb hr hlk hQ hS dX6_sums_9 (Nat.le_of_ble_eq_true rfl) (Nat.le_of_ble_eq_true rfl) ?_
  show th_ro Y ro (_) _ _
  unfold sp_sums
  exact th_roT (rfl) (th_rgI hP (hv))
  

set_option maxRecDepth 100000 in
set_option maxHeartbeats 400000 in
theorem c_X6_size (l : Launch) (Y : th_Y) (H0 : Heap) (ro : Nat → Nat) (hJ : th_gJ ro 16) (S : th_S) (thr stp efr esz etr : Int32) (val siz tre spa pro bes isr key lev kvi ksz krt ala fol cts : Nat → Int32) (hP : va_P Y.1 vwCl [(ro 0, .inr (6, [.int thr, .ref (ro 1), .ref (ro 2), .int (nI S.1), .ref (ro 3), .ref (ro 4), .ref (ro 5), .int (nI S.2.2.2.1), .ref (ro 6), .ref (ro 7), .int stp, .int efr, .int esz, .int etr, .ref (ro 8), .ref (ro 9), .ref (ro 10), .ref (ro 11), .ref (ro 12), .ref (ro 13), .ref (ro 14), .ref (ro 15)])), (ro 1, .inl (Y.2 0, 300, .inl val)), (ro 2, .inl (Y.2 0, 3, .inl siz)), (ro 3, .inl (Y.2 0, 8, .inl tre)), (ro 4, .inl (Y.2 0, 8, .inl spa)), (ro 5, .inl (Y.2 0, 12, .inl pro)), (ro 6, .inl (Y.2 0, 12, .inl bes)), (ro 7, .inl (Y.2 1, 12, .inl isr)), (ro 8, .inl (Y.2 0, 64, .inl key)), (ro 9, .inl (Y.2 0, 64, .inl lev)), (ro 10, .inl (Y.2 0, 4, .inl kvi)), (ro 11, .inl (Y.2 0, 4, .inl ksz)), (ro 12, .inl (Y.2 0, 4, .inl krt)), (ro 13, .inl (Y.2 1, 4, .inl ala)), (ro 14, .inl (Y.2 0, 4, .inl fol)), (ro 15, .inl (Y.2 0, 4, .inl cts))] H0) (hv : th_RIv S val siz pro key kvi ksz krt ala fol cts) (x1 : Int32) : th_M l Y yX6_size cX6_size 2 (some .int) (th_rm 6 0 0) [.ref (ro 0), .int x1] H0 (fun z => z ∈ [ro 0, ro 1, ro 2, ro 3, ro 4, ro 5, ro 6, ro 7, ro 8, ro 9, ro 10, ro 11, ro 12, ro 13, ro 14, ro 15]) (th_ro Y ro (sp_size S x1)) := by
  refine th_M.intro (by decide) (Nat.le_of_ble_eq_true rfl) ?_
  intro p e s m args below meth c ls Q hQ C hKN hl hS
  obtain ⟨hx, hb, hr, hml, hown, hts, hlk, hnm⟩ := C
  obtain ⟨hK, hN⟩ := hKN
  have hown : s.vm.findClass RX6 = some m.cls := hown
  have hl : lv_has ls 2 [(0, .ref (ro 0)), (1, .int x1)] := hl
  have hD : va_D (fun z => z ∈ [ro 0, ro 1, ro 2, ro 3, ro 4, ro 5, ro 6, ro 7, ro 8, ro 9, ro 10, ro 11, ro 12, ro 13, ro 14, ro 15]) [(ro 0, .inr (6, [.int thr, .ref (ro 1), .ref (ro 2), .int (nI S.1), .ref (ro 3), .ref (ro 4), .ref (ro 5), .int (nI S.2.2.2.1), .ref (ro 6), .ref (ro 7), .int stp, .int efr, .int esz, .int etr, .ref (ro 8), .ref (ro 9), .ref (ro 10), .ref (ro 11), .ref (ro 12), .ref (ro 13), .ref (ro 14), .ref (ro 15)])), (ro 1, .inl (Y.2 0, 300, .inl val)), (ro 2, .inl (Y.2 0, 3, .inl siz)), (ro 3, .inl (Y.2 0, 8, .inl tre)), (ro 4, .inl (Y.2 0, 8, .inl spa)), (ro 5, .inl (Y.2 0, 12, .inl pro)), (ro 6, .inl (Y.2 0, 12, .inl bes)), (ro 7, .inl (Y.2 1, 12, .inl isr)), (ro 8, .inl (Y.2 0, 64, .inl key)), (ro 9, .inl (Y.2 0, 64, .inl lev)), (ro 10, .inl (Y.2 0, 4, .inl kvi)), (ro 11, .inl (Y.2 0, 4, .inl ksz)), (ro 12, .inl (Y.2 0, 4, .inl krt)), (ro 13, .inl (Y.2 1, 4, .inl ala)), (ro 14, .inl (Y.2 0, 4, .inl fol)), (ro 15, .inl (Y.2 0, 4, .inl cts))] := th_mem (th_gD hJ [0, 1, 2, 3, 4, 5, 6, 7, 8, 9, 10, 11, 12, 13, 14, 15] (fun k9 hk9 => by simp only [List.mem_cons, List.not_mem_nil, or_false] at hk9; omega) th_nd16 rfl)
  have hv1 := hv.1
  have hv12 := hv.2.2.1
  refine lv_aload_n hx hb dX6_size_0 rfl (lv_at hl 0 rfl) ?_
  refine lv_aload_n hx hb dX6_size_1 rfl (lv_at hl 0 rfl) ?_
  refine lv_iload_n hx hb dX6_size_2 rfl (lv_at hl 1 rfl) ?_
  refine th_callV hx hb hml hown hts ⟨hK, hN⟩ hl hS (hP 0 _ rfl) rfl (rest := [.ref (ro 0)]) (c_X6_isView l Y _ ro thr stp efr esz etr S.1 S.2.2.2.1 (hP.sub (ws' := [(ro 0, .inr (6, [.int thr, .ref (ro 1), .ref (ro 2), .int (nI S.1), .ref (ro 3), .ref (ro 4), .ref (ro 5), .int (nI S.2.2.2.1), .ref (ro 6), .ref (ro 7), .int stp, .int efr, .int esz, .int etr, .ref (ro 8), .ref (ro 9), .ref (ro 10), .ref (ro 11), .ref (ro 12), .ref (ro 13), .ref (ro 14), .ref (ro 15)]))]) [0] rfl) (by omega) (by omega) x1) ok_X6_isView tw_3_230 dX6_size_3 rfl rfl (Nat.le_of_ble_eq_true rfl) ⟨Nat.le_of_ble_eq_true rfl, Nat.le_of_ble_eq_true rfl⟩ ⟨Nat.le_of_ble_eq_true rfl, Nat.le_of_ble_eq_true rfl⟩ (fun _ h => h.elim) (th_kpi (fun locs hS => ?_))
  by_cases q1 : th_ir x1 0 S.1
  · refine th_ti (th_bT q1) ?_
    have uq9 := q1
    obtain ⟨j1, j1a, j1b, ux9⟩ := uq9
    subst ux9
    have zj1 : th_ix (nI j1) = j1 := th_ixN (by omega)
    obtain ⟨hn1, hs1, hf1⟩ := hv.2.1 j1 j1b
    refine th_zeq (tgt := 13) hx hb dX6_size_6 (by decide) (by omega) (fun c_1 => by exfalso; omega) (fun c_1 => ?_)
    refine lv_iconst (v := nI 0) hx hb dX6_size_9 (by decide) ?_
    refine lv_goto (tgt := 14) hx hb dX6_size_10 (by decide) ?_
    refine th_callV hx hb hml hown hts ⟨hK, hN⟩ hl hS (hP 0 _ rfl) rfl (rest := []) (c_X6_goesWell l Y _ ro thr stp efr esz etr S.1 S.2.2.2.1 (hP.sub (ws' := [(ro 0, .inr (6, [.int thr, .ref (ro 1), .ref (ro 2), .int (nI S.1), .ref (ro 3), .ref (ro 4), .ref (ro 5), .int (nI S.2.2.2.1), .ref (ro 6), .ref (ro 7), .int stp, .int efr, .int esz, .int etr, .ref (ro 8), .ref (ro 9), .ref (ro 10), .ref (ro 11), .ref (ro 12), .ref (ro 13), .ref (ro 14), .ref (ro 15)]))]) [0] rfl) 0 (by omega)) ok_X6_goesWell tw_4_1 dX6_size_14 rfl rfl (Nat.le_of_ble_eq_true rfl) ⟨Nat.le_of_ble_eq_true rfl, Nat.le_of_ble_eq_true rfl⟩ ⟨Nat.le_of_ble_eq_true rfl, Nat.le_of_ble_eq_true rfl⟩ (th_subL [0] rfl) (th_ki (fun rz9 H locs hp hsm hS => ?_))
    obtain ⟨hrz, hPc⟩ := hp
    have hP : va_P Y.1 vwCl [(ro 0, .inr (6, [.int (nI 0), .ref (ro 1), .ref (ro 2), .int (nI S.1), .ref (ro 3), .ref (ro 4), .ref (ro 5), .int (nI S.2.2.2.1), .ref (ro 6), .ref (ro 7), .int stp, .int efr, .int esz, .int etr, .ref (ro 8), .ref (ro 9), .ref (ro 10), .ref (ro 11), .ref (ro 12), .ref (ro 13), .ref (ro 14), .ref (ro 15)])), (ro 1, .inl (Y.2 0, 300, .inl val)), (ro 2, .inl (Y.2 0, 3, .inl siz)), (ro 3, .inl (Y.2 0, 8, .inl tre)), (ro 4, .inl (Y.2 0, 8, .inl spa)), (ro 5, .inl (Y.2 0, 12, .inl pro)), (ro 6, .inl (Y.2 0, 12, .inl bes)), (ro 7, .inl (Y.2 1, 12, .inl isr)), (ro 8, .inl (Y.2 0, 64, .inl key)), (ro 9, .inl (Y.2 0, 64, .inl lev)), (ro 10, .inl (Y.2 0, 4, .inl kvi)), (ro 11, .inl (Y.2 0, 4, .inl ksz)), (ro 12, .inl (Y.2 0, 4, .inl krt)), (ro 13, .inl (Y.2 1, 4, .inl ala)), (ro 14, .inl (Y.2 0, 4, .inl fol)), (ro 15, .inl (Y.2 0, 4, .inl cts))] _ := (th_join (wr := [(ro 1, .inl (Y.2 0, 300, .inl val)), (ro 2, .inl (Y.2 0, 3, .inl siz)), (ro 3, .inl (Y.2 0, 8, .inl tre)), (ro 4, .inl (Y.2 0, 8, .inl spa)), (ro 5, .inl (Y.2 0, 12, .inl pro)), (ro 6, .inl (Y.2 0, 12, .inl bes)), (ro 7, .inl (Y.2 1, 12, .inl isr)), (ro 8, .inl (Y.2 0, 64, .inl key)), (ro 9, .inl (Y.2 0, 64, .inl lev)), (ro 10, .inl (Y.2 0, 4, .inl kvi)), (ro 11, .inl (Y.2 0, 4, .inl ksz)), (ro 12, .inl (Y.2 0, 4, .inl krt)), (ro 13, .inl (Y.2 1, 4, .inl ala)), (ro 14, .inl (Y.2 0, 4, .inl fol)), (ro 15, .inl (Y.2 0, 4, .inl cts))]) hP hD [1, 2, 3, 4, 5, 6, 7, 8, 9, 10, 11, 12, 13, 14, 15] [0] rfl rfl (by decide) hsm hPc).sub [15, 0, 1, 2, 3, 4, 5, 6, 7, 8, 9, 10, 11, 12, 13, 14] rfl
    have hD : va_D _ [(ro 0, .inr (6, [.int (nI 0), .ref (ro 1), .ref (ro 2), .int (nI S.1), .ref (ro 3), .ref (ro 4), .ref (ro 5), .int (nI S.2.2.2.1), .ref (ro 6), .ref (ro 7), .int stp, .int efr, .int esz, .int etr, .ref (ro 8), .ref (ro 9), .ref (ro 10), .ref (ro 11), .ref (ro 12), .ref (ro 13), .ref (ro 14), .ref (ro 15)])), (ro 1, .inl (Y.2 0, 300, .inl val)), (ro 2, .inl (Y.2 0, 3, .inl siz)), (ro 3, .inl (Y.2 0, 8, .inl tre)), (ro 4, .inl (Y.2 0, 8, .inl spa)), (ro 5, .inl (Y.2 0, 12, .inl pro)), (ro 6, .inl (Y.2 0, 12, .inl bes)), (ro 7, .inl (Y.2 1, 12, .inl isr)), (ro 8, .inl (Y.2 0, 64, .inl key)), (ro 9, .inl (Y.2 0, 64, .inl lev)), (ro 10, .inl (Y.2 0, 4, .inl kvi)), (ro 11, .inl (Y.2 0, 4, .inl ksz)), (ro 12, .inl (Y.2 0, 4, .inl krt)), (ro 13, .inl (Y.2 1, 4, .inl ala)), (ro 14, .inl (Y.2 0, 4, .inl fol)), (ro 15, .inl (Y.2 0, 4, .inl cts))] := th_Dsame hD rfl
    obtain rfl : rz9 = nI 1 := by rw [hrz]; rfl
    refine th_zeq (tgt := 29) hx hb dX6_size_17 (by decide) (by omega) (fun c_2 => by exfalso; omega) (fun c_2 => ?_)
    refine lv_aload_n hx hb dX6_size_20 rfl (lv_at hl 0 rfl) ?_
    refine va_get (D := Y.1) (ci := 6) (v := .ref (ro 2)) (C := RX6) (T := TX6) (N := 22) hx hb hts inX6 hown hK hP 0 rfl rfl 2 (by decide) (hts _ tw_3_157) (fun _ h9 => h9) rfl dX6_size_21 ?_
    refine lv_iload_n hx hb dX6_size_24 rfl (lv_at hl 1 rfl) ?_
    refine th_iald hx hb hK hP 2 rfl (j := j1) (by omega) (by omega) dX6_size_25 ?_
    refine lv_goto (tgt := 30) hx hb dX6_size_26 (by decide) ?_
    refine th_iret hx hb hr hlk hQ hS dX6_size_30 (Nat.le_of_ble_eq_true rfl) (Nat.le_of_ble_eq_true rfl) ?_
    show th_ro Y ro (_) _ _
    unfold sp_size
    simp only [zj1]
    rw [th_ifT q1]
    exact th_roT (hs1) (th_rgI hP (hv))
    
  refine th_ti (th_bF q1) ?_
  refine th_zeq (tgt := 13) hx hb dX6_size_6 (by decide) (by omega) (fun c_3 => ?_) (fun c_3 => by exfalso; omega)
  refine lv_iconst (v := nI 1) hx hb dX6_size_13 (by decide) ?_
  refine th_callV hx hb hml hown hts ⟨hK, hN⟩ hl hS (hP 0 _ rfl) rfl (rest := []) (c_X6_goesWell l Y _ ro thr stp efr esz etr S.1 S.2.2.2.1 (hP.sub (ws' := [(ro 0, .inr (6, [.int thr, .ref (ro 1), .ref (ro 2), .int (nI S.1), .ref (ro 3), .ref (ro 4), .ref (ro 5), .int (nI S.2.2.2.1), .ref (ro 6), .ref (ro 7), .int stp, .int efr, .int esz, .int etr, .ref (ro 8), .ref (ro 9), .ref (ro 10), .ref (ro 11), .ref (ro 12), .ref (ro 13), .ref (ro 14), .ref (ro 15)]))]) [0] rfl) 1 (by omega)) ok_X6_goesWell tw_4_1 dX6_size_14 rfl rfl (Nat.le_of_ble_eq_true rfl) ⟨Nat.le_of_ble_eq_true rfl, Nat.le_of_ble_eq_true rfl⟩ ⟨Nat.le_of_ble_eq_true rfl, Nat.le_of_ble_eq_true rfl⟩ (th_subL [0] rfl) (th_ki (fun rz9 H locs hp hsm hS => ?_))
  obtain ⟨hrz, hPc⟩ := hp
  have hP : va_P Y.1 vwCl [(ro 0, .inr (6, [.int (nI 1), .ref (ro 1), .ref (ro 2), .int (nI S.1), .ref (ro 3), .ref (ro 4), .ref (ro 5), .int (nI S.2.2.2.1), .ref (ro 6), .ref (ro 7), .int stp, .int efr, .int esz, .int etr, .ref (ro 8), .ref (ro 9), .ref (ro 10), .ref (ro 11), .ref (ro 12), .ref (ro 13), .ref (ro 14), .ref (ro 15)])), (ro 1, .inl (Y.2 0, 300, .inl val)), (ro 2, .inl (Y.2 0, 3, .inl siz)), (ro 3, .inl (Y.2 0, 8, .inl tre)), (ro 4, .inl (Y.2 0, 8, .inl spa)), (ro 5, .inl (Y.2 0, 12, .inl pro)), (ro 6, .inl (Y.2 0, 12, .inl bes)), (ro 7, .inl (Y.2 1, 12, .inl isr)), (ro 8, .inl (Y.2 0, 64, .inl key)), (ro 9, .inl (Y.2 0, 64, .inl lev)), (ro 10, .inl (Y.2 0, 4, .inl kvi)), (ro 11, .inl (Y.2 0, 4, .inl ksz)), (ro 12, .inl (Y.2 0, 4, .inl krt)), (ro 13, .inl (Y.2 1, 4, .inl ala)), (ro 14, .inl (Y.2 0, 4, .inl fol)), (ro 15, .inl (Y.2 0, 4, .inl cts))] _ := (th_join (wr := [(ro 1, .inl (Y.2 0, 300, .inl val)), (ro 2, .inl (Y.2 0, 3, .inl siz)), (ro 3, .inl (Y.2 0, 8, .inl tre)), (ro 4, .inl (Y.2 0, 8, .inl spa)), (ro 5, .inl (Y.2 0, 12, .inl pro)), (ro 6, .inl (Y.2 0, 12, .inl bes)), (ro 7, .inl (Y.2 1, 12, .inl isr)), (ro 8, .inl (Y.2 0, 64, .inl key)), (ro 9, .inl (Y.2 0, 64, .inl lev)), (ro 10, .inl (Y.2 0, 4, .inl kvi)), (ro 11, .inl (Y.2 0, 4, .inl ksz)), (ro 12, .inl (Y.2 0, 4, .inl krt)), (ro 13, .inl (Y.2 1, 4, .inl ala)), (ro 14, .inl (Y.2 0, 4, .inl fol)), (ro 15, .inl (Y.2 0, 4, .inl cts))]) hP hD [1, 2, 3, 4, 5, 6, 7, 8, 9, 10, 11, 12, 13, 14, 15] [0] rfl rfl (by decide) hsm hPc).sub [15, 0, 1, 2, 3, 4, 5, 6, 7, 8, 9, 10, 11, 12, 13, 14] rfl
  have hD : va_D _ [(ro 0, .inr (6, [.int (nI 1), .ref (ro 1), .ref (ro 2), .int (nI S.1), .ref (ro 3), .ref (ro 4), .ref (ro 5), .int (nI S.2.2.2.1), .ref (ro 6), .ref (ro 7), .int stp, .int efr, .int esz, .int etr, .ref (ro 8), .ref (ro 9), .ref (ro 10), .ref (ro 11), .ref (ro 12), .ref (ro 13), .ref (ro 14), .ref (ro 15)])), (ro 1, .inl (Y.2 0, 300, .inl val)), (ro 2, .inl (Y.2 0, 3, .inl siz)), (ro 3, .inl (Y.2 0, 8, .inl tre)), (ro 4, .inl (Y.2 0, 8, .inl spa)), (ro 5, .inl (Y.2 0, 12, .inl pro)), (ro 6, .inl (Y.2 0, 12, .inl bes)), (ro 7, .inl (Y.2 1, 12, .inl isr)), (ro 8, .inl (Y.2 0, 64, .inl key)), (ro 9, .inl (Y.2 0, 64, .inl lev)), (ro 10, .inl (Y.2 0, 4, .inl kvi)), (ro 11, .inl (Y.2 0, 4, .inl ksz)), (ro 12, .inl (Y.2 0, 4, .inl krt)), (ro 13, .inl (Y.2 1, 4, .inl ala)), (ro 14, .inl (Y.2 0, 4, .inl fol)), (ro 15, .inl (Y.2 0, 4, .inl cts))] := th_Dsame hD rfl
  obtain rfl : rz9 = nI 0 := by rw [hrz]; rfl
  refine th_zeq (tgt := 29) hx hb dX6_size_17 (by decide) (by omega) (fun c_4 => ?_) (fun c_4 => by exfalso; omega)
  refine lv_iconst (v := nI 0) hx hb dX6_size_29 (by decide) ?_
  refine th_iret hx hb hr hlk hQ hS dX6_size_30 (Nat.le_of_ble_eq_true rfl) (Nat.le_of_ble_eq_true rfl) ?_
  show th_ro Y ro (_) _ _
  unfold sp_size
  rw [th_ifF (fun z9 => q1 z9)]
  exact th_roF (by decide) (th_rgI hP hv)
  

set_option maxRecDepth 100000 in
set_option maxHeartbeats 400000 in
theorem c_X6_get (l : Launch) (Y : th_Y) (H0 : Heap) (ro : Nat → Nat) (hJ : th_gJ ro 16) (S : th_S) (thr stp efr esz etr : Int32) (val siz tre spa pro bes isr key lev kvi ksz krt ala fol cts : Nat → Int32) (hP : va_P Y.1 vwCl [(ro 0, .inr (6, [.int thr, .ref (ro 1), .ref (ro 2), .int (nI S.1), .ref (ro 3), .ref (ro 4), .ref (ro 5), .int (nI S.2.2.2.1), .ref (ro 6), .ref (ro 7), .int stp, .int efr, .int esz, .int etr, .ref (ro 8), .ref (ro 9), .ref (ro 10), .ref (ro 11), .ref (ro 12), .ref (ro 13), .ref (ro 14), .ref (ro 15)])), (ro 1, .inl (Y.2 0, 300, .inl val)), (ro 2, .inl (Y.2 0, 3, .inl siz)), (ro 3, .inl (Y.2 0, 8, .inl tre)), (ro 4, .inl (Y.2 0, 8, .inl spa)), (ro 5, .inl (Y.2 0, 12, .inl pro)), (ro 6, .inl (Y.2 0, 12, .inl bes)), (ro 7, .inl (Y.2 1, 12, .inl isr)), (ro 8, .inl (Y.2 0, 64, .inl key)), (ro 9, .inl (Y.2 0, 64, .inl lev)), (ro 10, .inl (Y.2 0, 4, .inl kvi)), (ro 11, .inl (Y.2 0, 4, .inl ksz)), (ro 12, .inl (Y.2 0, 4, .inl krt)), (ro 13, .inl (Y.2 1, 4, .inl ala)), (ro 14, .inl (Y.2 0, 4, .inl fol)), (ro 15, .inl (Y.2 0, 4, .inl cts))] H0) (hv : th_RIv S val siz pro key kvi ksz krt ala fol cts) (x1 : Int32) : th_M l Y yX6_get cX6_get 2 (some .int) (th_rm 6 0 0) [.ref (ro 0), .int x1] H0 (fun z => z ∈ [ro 0, ro 1, ro 2, ro 3, ro 4, ro 5, ro 6, ro 7, ro 8, ro 9, ro 10, ro 11, ro 12, ro 13, ro 14, ro 15]) (th_ro Y ro (sp_get S x1)) := by
  refine th_M.intro (by decide) (Nat.le_of_ble_eq_true rfl) ?_
  intro p e s m args below meth c ls Q hQ C hKN hl hS
  obtain ⟨hx, hb, hr, hml, hown, hts, hlk, hnm⟩ := C
  obtain ⟨hK, hN⟩ := hKN
  have hown : s.vm.findClass RX6 = some m.cls := hown
  have hl : lv_has ls 2 [(0, .ref (ro 0)), (1, .int x1)] := hl
  have hD : va_D (fun z => z ∈ [ro 0, ro 1, ro 2, ro 3, ro 4, ro 5, ro 6, ro 7, ro 8, ro 9, ro 10, ro 11, ro 12, ro 13, ro 14, ro 15]) [(ro 0, .inr (6, [.int thr, .ref (ro 1), .ref (ro 2), .int (nI S.1), .ref (ro 3), .ref (ro 4), .ref (ro 5), .int (nI S.2.2.2.1), .ref (ro 6), .ref (ro 7), .int stp, .int efr, .int esz, .int etr, .ref (ro 8), .ref (ro 9), .ref (ro 10), .ref (ro 11), .ref (ro 12), .ref (ro 13), .ref (ro 14), .ref (ro 15)])), (ro 1, .inl (Y.2 0, 300, .inl val)), (ro 2, .inl (Y.2 0, 3, .inl siz)), (ro 3, .inl (Y.2 0, 8, .inl tre)), (ro 4, .inl (Y.2 0, 8, .inl spa)), (ro 5, .inl (Y.2 0, 12, .inl pro)), (ro 6, .inl (Y.2 0, 12, .inl bes)), (ro 7, .inl (Y.2 1, 12, .inl isr)), (ro 8, .inl (Y.2 0, 64, .inl key)), (ro 9, .inl (Y.2 0, 64, .inl lev)), (ro 10, .inl (Y.2 0, 4, .inl kvi)), (ro 11, .inl (Y.2 0, 4, .inl ksz)), (ro 12, .inl (Y.2 0, 4, .inl krt)), (ro 13, .inl (Y.2 1, 4, .inl ala)), (ro 14, .inl (Y.2 0, 4, .inl fol)), (ro 15, .inl (Y.2 0, 4, .inl cts))] := th_mem (th_gD hJ [0, 1, 2, 3, 4, 5, 6, 7, 8, 9, 10, 11, 12, 13, 14, 15] (fun k9 hk9 => by simp only [List.mem_cons, List.not_mem_nil, or_false] at hk9; omega) th_nd16 rfl)
  have hv1 := hv.1
  have hv12 := hv.2.2.1
  refine lv_aload_n hx hb dX6_get_0 rfl (lv_at hl 0 rfl) ?_
  refine lv_iload_n hx hb dX6_get_1 rfl (lv_at hl 1 rfl) ?_
  refine th_callS hx hb hml hown hts ⟨hK, hN⟩ hl hS (rest := [.ref (ro 0)]) (c_X6_isKey l Y _ x1) ok_X6_isKey tw_4_85 dX6_get_2 rfl rfl (Nat.le_of_ble_eq_true rfl) ⟨Nat.le_of_ble_eq_true rfl, Nat.le_of_ble_eq_true rfl⟩ ⟨Nat.le_of_ble_eq_true rfl, Nat.le_of_ble_eq_true rfl⟩ (fun _ h => h.elim) (th_kpi (fun locs hS => ?_))
  by_cases q1 : th_ir x1 0 64
  · refine th_ti (th_bT q1) ?_
    have uq9 := q1
    obtain ⟨j1, j1a, j1b, ux9⟩ := uq9
    subst ux9
    have zj1 : th_ix (nI j1) = j1 := th_ixN (by omega)
    refine th_zeq (tgt := 12) hx hb dX6_get_5 (by decide) (by omega) (fun c_1 => by exfalso; omega) (fun c_1 => ?_)
    refine lv_iconst (v := nI 0) hx hb dX6_get_8 (by decide) ?_
    refine lv_goto (tgt := 13) hx hb dX6_get_9 (by decide) ?_
    refine th_callV hx hb hml hown hts ⟨hK, hN⟩ hl hS (hP 0 _ rfl) rfl (rest := []) (c_X6_goesWell l Y _ ro thr stp efr esz etr S.1 S.2.2.2.1 (hP.sub (ws' := [(ro 0, .inr (6, [.int thr, .ref (ro 1), .ref (ro 2), .int (nI S.1), .ref (ro 3), .ref (ro 4), .ref (ro 5), .int (nI S.2.2.2.1), .ref (ro 6), .ref (ro 7), .int stp, .int efr, .int esz, .int etr, .ref (ro 8), .ref (ro 9), .ref (ro 10), .ref (ro 11), .ref (ro 12), .ref (ro 13), .ref (ro 14), .ref (ro 15)]))]) [0] rfl) 0 (by omega)) ok_X6_goesWell tw_4_1 dX6_get_13 rfl rfl (Nat.le_of_ble_eq_true rfl) ⟨Nat.le_of_ble_eq_true rfl, Nat.le_of_ble_eq_true rfl⟩ ⟨Nat.le_of_ble_eq_true rfl, Nat.le_of_ble_eq_true rfl⟩ (th_subL [0] rfl) (th_ki (fun rz9 H locs hp hsm hS => ?_))
    obtain ⟨hrz, hPc⟩ := hp
    have hP : va_P Y.1 vwCl [(ro 0, .inr (6, [.int (nI 0), .ref (ro 1), .ref (ro 2), .int (nI S.1), .ref (ro 3), .ref (ro 4), .ref (ro 5), .int (nI S.2.2.2.1), .ref (ro 6), .ref (ro 7), .int stp, .int efr, .int esz, .int etr, .ref (ro 8), .ref (ro 9), .ref (ro 10), .ref (ro 11), .ref (ro 12), .ref (ro 13), .ref (ro 14), .ref (ro 15)])), (ro 1, .inl (Y.2 0, 300, .inl val)), (ro 2, .inl (Y.2 0, 3, .inl siz)), (ro 3, .inl (Y.2 0, 8, .inl tre)), (ro 4, .inl (Y.2 0, 8, .inl spa)), (ro 5, .inl (Y.2 0, 12, .inl pro)), (ro 6, .inl (Y.2 0, 12, .inl bes)), (ro 7, .inl (Y.2 1, 12, .inl isr)), (ro 8, .inl (Y.2 0, 64, .inl key)), (ro 9, .inl (Y.2 0, 64, .inl lev)), (ro 10, .inl (Y.2 0, 4, .inl kvi)), (ro 11, .inl (Y.2 0, 4, .inl ksz)), (ro 12, .inl (Y.2 0, 4, .inl krt)), (ro 13, .inl (Y.2 1, 4, .inl ala)), (ro 14, .inl (Y.2 0, 4, .inl fol)), (ro 15, .inl (Y.2 0, 4, .inl cts))] _ := (th_join (wr := [(ro 1, .inl (Y.2 0, 300, .inl val)), (ro 2, .inl (Y.2 0, 3, .inl siz)), (ro 3, .inl (Y.2 0, 8, .inl tre)), (ro 4, .inl (Y.2 0, 8, .inl spa)), (ro 5, .inl (Y.2 0, 12, .inl pro)), (ro 6, .inl (Y.2 0, 12, .inl bes)), (ro 7, .inl (Y.2 1, 12, .inl isr)), (ro 8, .inl (Y.2 0, 64, .inl key)), (ro 9, .inl (Y.2 0, 64, .inl lev)), (ro 10, .inl (Y.2 0, 4, .inl kvi)), (ro 11, .inl (Y.2 0, 4, .inl ksz)), (ro 12, .inl (Y.2 0, 4, .inl krt)), (ro 13, .inl (Y.2 1, 4, .inl ala)), (ro 14, .inl (Y.2 0, 4, .inl fol)), (ro 15, .inl (Y.2 0, 4, .inl cts))]) hP hD [1, 2, 3, 4, 5, 6, 7, 8, 9, 10, 11, 12, 13, 14, 15] [0] rfl rfl (by decide) hsm hPc).sub [15, 0, 1, 2, 3, 4, 5, 6, 7, 8, 9, 10, 11, 12, 13, 14] rfl
    have hD : va_D _ [(ro 0, .inr (6, [.int (nI 0), .ref (ro 1), .ref (ro 2), .int (nI S.1), .ref (ro 3), .ref (ro 4), .ref (ro 5), .int (nI S.2.2.2.1), .ref (ro 6), .ref (ro 7), .int stp, .int efr, .int esz, .int etr, .ref (ro 8), .ref (ro 9), .ref (ro 10), .ref (ro 11), .ref (ro 12), .ref (ro 13), .ref (ro 14), .ref (ro 15)])), (ro 1, .inl (Y.2 0, 300, .inl val)), (ro 2, .inl (Y.2 0, 3, .inl siz)), (ro 3, .inl (Y.2 0, 8, .inl tre)), (ro 4, .inl (Y.2 0, 8, .inl spa)), (ro 5, .inl (Y.2 0, 12, .inl pro)), (ro 6, .inl (Y.2 0, 12, .inl bes)), (ro 7, .inl (Y.2 1, 12, .inl isr)), (ro 8, .inl (Y.2 0, 64, .inl key)), (ro 9, .inl (Y.2 0, 64, .inl lev)), (ro 10, .inl (Y.2 0, 4, .inl kvi)), (ro 11, .inl (Y.2 0, 4, .inl ksz)), (ro 12, .inl (Y.2 0, 4, .inl krt)), (ro 13, .inl (Y.2 1, 4, .inl ala)), (ro 14, .inl (Y.2 0, 4, .inl fol)), (ro 15, .inl (Y.2 0, 4, .inl cts))] := th_Dsame hD rfl
    obtain rfl : rz9 = nI 1 := by rw [hrz]; rfl
    refine th_zeq (tgt := 28) hx hb dX6_get_16 (by decide) (by omega) (fun c_2 => by exfalso; omega) (fun c_2 => ?_)
    refine lv_aload_n hx hb dX6_get_19 rfl (lv_at hl 0 rfl) ?_
    refine va_get (D := Y.1) (ci := 6) (v := .ref (ro 8)) (C := RX6) (T := TX6) (N := 22) hx hb hts inX6 hown hK hP 0 rfl rfl 14 (by decide) (hts _ tw_3_169) (fun _ h9 => h9) rfl dX6_get_20 ?_
    refine lv_iload_n hx hb dX6_get_23 rfl (lv_at hl 1 rfl) ?_
    refine th_iald hx hb hK hP 8 rfl (j := j1) (by omega) (by omega) dX6_get_24 ?_
    refine lv_goto (tgt := 29) hx hb dX6_get_25 (by decide) ?_
    refine th_iret hx hb hr hlk hQ hS dX6_get_29 (Nat.le_of_ble_eq_true rfl) (Nat.le_of_ble_eq_true rfl) ?_
    show th_ro Y ro (_) _ _
    unfold sp_get
    simp only [zj1]
    rw [th_ifT q1]
    exact th_roT (hv.2.2.2.2.1 j1 j1b) (th_rgI hP (hv))
    
  refine th_ti (th_bF q1) ?_
  refine th_zeq (tgt := 12) hx hb dX6_get_5 (by decide) (by omega) (fun c_3 => ?_) (fun c_3 => by exfalso; omega)
  refine lv_iconst (v := nI 1) hx hb dX6_get_12 (by decide) ?_
  refine th_callV hx hb hml hown hts ⟨hK, hN⟩ hl hS (hP 0 _ rfl) rfl (rest := []) (c_X6_goesWell l Y _ ro thr stp efr esz etr S.1 S.2.2.2.1 (hP.sub (ws' := [(ro 0, .inr (6, [.int thr, .ref (ro 1), .ref (ro 2), .int (nI S.1), .ref (ro 3), .ref (ro 4), .ref (ro 5), .int (nI S.2.2.2.1), .ref (ro 6), .ref (ro 7), .int stp, .int efr, .int esz, .int etr, .ref (ro 8), .ref (ro 9), .ref (ro 10), .ref (ro 11), .ref (ro 12), .ref (ro 13), .ref (ro 14), .ref (ro 15)]))]) [0] rfl) 1 (by omega)) ok_X6_goesWell tw_4_1 dX6_get_13 rfl rfl (Nat.le_of_ble_eq_true rfl) ⟨Nat.le_of_ble_eq_true rfl, Nat.le_of_ble_eq_true rfl⟩ ⟨Nat.le_of_ble_eq_true rfl, Nat.le_of_ble_eq_true rfl⟩ (th_subL [0] rfl) (th_ki (fun rz9 H locs hp hsm hS => ?_))
  obtain ⟨hrz, hPc⟩ := hp
  have hP : va_P Y.1 vwCl [(ro 0, .inr (6, [.int (nI 1), .ref (ro 1), .ref (ro 2), .int (nI S.1), .ref (ro 3), .ref (ro 4), .ref (ro 5), .int (nI S.2.2.2.1), .ref (ro 6), .ref (ro 7), .int stp, .int efr, .int esz, .int etr, .ref (ro 8), .ref (ro 9), .ref (ro 10), .ref (ro 11), .ref (ro 12), .ref (ro 13), .ref (ro 14), .ref (ro 15)])), (ro 1, .inl (Y.2 0, 300, .inl val)), (ro 2, .inl (Y.2 0, 3, .inl siz)), (ro 3, .inl (Y.2 0, 8, .inl tre)), (ro 4, .inl (Y.2 0, 8, .inl spa)), (ro 5, .inl (Y.2 0, 12, .inl pro)), (ro 6, .inl (Y.2 0, 12, .inl bes)), (ro 7, .inl (Y.2 1, 12, .inl isr)), (ro 8, .inl (Y.2 0, 64, .inl key)), (ro 9, .inl (Y.2 0, 64, .inl lev)), (ro 10, .inl (Y.2 0, 4, .inl kvi)), (ro 11, .inl (Y.2 0, 4, .inl ksz)), (ro 12, .inl (Y.2 0, 4, .inl krt)), (ro 13, .inl (Y.2 1, 4, .inl ala)), (ro 14, .inl (Y.2 0, 4, .inl fol)), (ro 15, .inl (Y.2 0, 4, .inl cts))] _ := (th_join (wr := [(ro 1, .inl (Y.2 0, 300, .inl val)), (ro 2, .inl (Y.2 0, 3, .inl siz)), (ro 3, .inl (Y.2 0, 8, .inl tre)), (ro 4, .inl (Y.2 0, 8, .inl spa)), (ro 5, .inl (Y.2 0, 12, .inl pro)), (ro 6, .inl (Y.2 0, 12, .inl bes)), (ro 7, .inl (Y.2 1, 12, .inl isr)), (ro 8, .inl (Y.2 0, 64, .inl key)), (ro 9, .inl (Y.2 0, 64, .inl lev)), (ro 10, .inl (Y.2 0, 4, .inl kvi)), (ro 11, .inl (Y.2 0, 4, .inl ksz)), (ro 12, .inl (Y.2 0, 4, .inl krt)), (ro 13, .inl (Y.2 1, 4, .inl ala)), (ro 14, .inl (Y.2 0, 4, .inl fol)), (ro 15, .inl (Y.2 0, 4, .inl cts))]) hP hD [1, 2, 3, 4, 5, 6, 7, 8, 9, 10, 11, 12, 13, 14, 15] [0] rfl rfl (by decide) hsm hPc).sub [15, 0, 1, 2, 3, 4, 5, 6, 7, 8, 9, 10, 11, 12, 13, 14] rfl
  have hD : va_D _ [(ro 0, .inr (6, [.int (nI 1), .ref (ro 1), .ref (ro 2), .int (nI S.1), .ref (ro 3), .ref (ro 4), .ref (ro 5), .int (nI S.2.2.2.1), .ref (ro 6), .ref (ro 7), .int stp, .int efr, .int esz, .int etr, .ref (ro 8), .ref (ro 9), .ref (ro 10), .ref (ro 11), .ref (ro 12), .ref (ro 13), .ref (ro 14), .ref (ro 15)])), (ro 1, .inl (Y.2 0, 300, .inl val)), (ro 2, .inl (Y.2 0, 3, .inl siz)), (ro 3, .inl (Y.2 0, 8, .inl tre)), (ro 4, .inl (Y.2 0, 8, .inl spa)), (ro 5, .inl (Y.2 0, 12, .inl pro)), (ro 6, .inl (Y.2 0, 12, .inl bes)), (ro 7, .inl (Y.2 1, 12, .inl isr)), (ro 8, .inl (Y.2 0, 64, .inl key)), (ro 9, .inl (Y.2 0, 64, .inl lev)), (ro 10, .inl (Y.2 0, 4, .inl kvi)), (ro 11, .inl (Y.2 0, 4, .inl ksz)), (ro 12, .inl (Y.2 0, 4, .inl krt)), (ro 13, .inl (Y.2 1, 4, .inl ala)), (ro 14, .inl (Y.2 0, 4, .inl fol)), (ro 15, .inl (Y.2 0, 4, .inl cts))] := th_Dsame hD rfl
  obtain rfl : rz9 = nI 0 := by rw [hrz]; rfl
  refine th_zeq (tgt := 28) hx hb dX6_get_16 (by decide) (by omega) (fun c_4 => ?_) (fun c_4 => by exfalso; omega)
  refine lv_iconst (v := nI 0) hx hb dX6_get_28 (by decide) ?_
  refine th_iret hx hb hr hlk hQ hS dX6_get_29 (Nat.le_of_ble_eq_true rfl) (Nat.le_of_ble_eq_true rfl) ?_
  show th_ro Y ro (_) _ _
  unfold sp_get
  rw [th_ifF (fun z9 => q1 z9)]
  exact th_roF (by decide) (th_rgI hP hv)
  


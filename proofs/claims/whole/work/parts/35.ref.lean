set_option maxRecDepth 100000 in
set_option maxHeartbeats 800000 in
theorem c_X6_in (l : Launch) (Y : th_Y) (H : Heap) (x lo hi : Int32) : th_P l Y yX6_in cX6_in 3 (some .boolean) (th_rm 0 0 0) [.int x, .int lo, .int hi] H (fun r9 => r9 = some (.int (th_b (lo ≤ x ∧ x ≤ hi)))) := by
  refine th_M.intro (by decide) (Nat.le_of_ble_eq_true rfl) ?_
  intro p e s m args below meth c ls Q hQ C hKN hl hS
  obtain ⟨hx, hb, hr, hml, hown, hts, hlk, hnm⟩ := C
  obtain ⟨hK, hN⟩ := hKN
  have hown : s.vm.findClass RX6 = some m.cls := hown
  have hl : lv_has ls 3 [(0, .int x), (1, .int lo), (2, .int hi)] := hl
  refine lv_iload_n hx hb dX6_in_0 rfl (lv_at hl 0 rfl) ?_
  refine lv_iload_n hx hb dX6_in_1 rfl (lv_at hl 1 rfl) ?_
  refine lv_icmp_lt (tgt := 14) hx hb dX6_in_2 (by decide) (fun c_1 => ?_) (fun c_1 => ?_)
  · skip
    refine lv_iconst (v := nI 0) hx hb dX6_in_14 (by decide) ?_
    refine th_zret hx hb hr hlk hQ hS dX6_in_15 (Nat.le_of_ble_eq_true rfl) (Nat.le_of_ble_eq_true rfl) (by first | exact Or.inl rfl | exact Or.inr rfl | assumption | exact th_b01 _) ?_
    exact ⟨by rw [th_bF (fun z9 => th_gtn c_1 z9.1)], rfl⟩
  refine lv_iload_n hx hb dX6_in_5 rfl (lv_at hl 0 rfl) ?_
  refine lv_iload_n hx hb dX6_in_6 rfl (lv_at hl 2 rfl) ?_
  refine lv_icmp_gt (tgt := 14) hx hb dX6_in_7 (by decide) (fun c_2 => ?_) (fun c_2 => ?_)
  · skip
    refine lv_iconst (v := nI 0) hx hb dX6_in_14 (by decide) ?_
    refine th_zret hx hb hr hlk hQ hS dX6_in_15 (Nat.le_of_ble_eq_true rfl) (Nat.le_of_ble_eq_true rfl) (by first | exact Or.inl rfl | exact Or.inr rfl | assumption | exact th_b01 _) ?_
    exact ⟨by rw [th_bF (fun z9 => th_gtn c_2 z9.2)], rfl⟩
  refine lv_iconst (v := nI 1) hx hb dX6_in_10 (by decide) ?_
  refine lv_goto (tgt := 15) hx hb dX6_in_11 (by decide) ?_
  refine th_zret hx hb hr hlk hQ hS dX6_in_15 (Nat.le_of_ble_eq_true rfl) (Nat.le_of_ble_eq_true rfl) (by first | exact Or.inl rfl | exact Or.inr rfl | assumption | exact th_b01 _) ?_
  exact ⟨by rw [th_bT ⟨th_nlt c_1, th_nlt c_2⟩], rfl⟩

set_option maxRecDepth 100000 in
set_option maxHeartbeats 800000 in
theorem c_X6_isValue (l : Launch) (Y : th_Y) (H : Heap) (x : Int32) : th_P l Y yX6_isValue cX6_isValue 1 (some .boolean) (th_rm 1 0 0) [.int x] H (fun r9 => r9 = some (.int (th_b (th_ir x 0 65536)))) := by
  refine th_M.intro (by decide) (Nat.le_of_ble_eq_true rfl) ?_
  intro p e s m args below meth c ls Q hQ C hKN hl hS
  obtain ⟨hx, hb, hr, hml, hown, hts, hlk, hnm⟩ := C
  obtain ⟨hK, hN⟩ := hKN
  have hown : s.vm.findClass RX6 = some m.cls := hown
  have hl : lv_has ls 1 [(0, .int x)] := hl
  refine lv_iload_n hx hb dX6_isValue_0 rfl (lv_at hl 0 rfl) ?_
  refine lv_iconst (v := nI 0) hx hb dX6_isValue_1 (by decide) ?_
  refine lv_ldc hx hb hown (hts _ tw_4_0) dX6_isValue_2 ?_
  refine th_ti (show (65535 : Int32) = nI 65535 from rfl) ?_
  refine th_callS hx hb hml hown hts ⟨hK, hN⟩ hl hS (rest := []) (c_X6_in l Y _ x (nI 0) (nI 65535)) ok_X6_in tw_3_234 dX6_isValue_4 rfl rfl (Nat.le_of_ble_eq_true rfl) ⟨Nat.le_of_ble_eq_true rfl, Nat.le_of_ble_eq_true rfl⟩ ⟨Nat.le_of_ble_eq_true rfl, Nat.le_of_ble_eq_true rfl⟩ (fun _ h => h.elim) (th_kpi (fun locs hS => ?_))
  refine th_zret hx hb hr hlk hQ hS dX6_isValue_7 (Nat.le_of_ble_eq_true rfl) (Nat.le_of_ble_eq_true rfl) (by first | exact Or.inl rfl | exact Or.inr rfl | assumption | exact th_b01 _) ?_
  exact ⟨by rw [th_bE (th_irP (by decide) (by decide))], rfl⟩

set_option maxRecDepth 100000 in
set_option maxHeartbeats 800000 in
theorem c_X6_isKey (l : Launch) (Y : th_Y) (H : Heap) (x : Int32) : th_P l Y yX6_isKey cX6_isKey 1 (some .boolean) (th_rm 1 0 0) [.int x] H (fun r9 => r9 = some (.int (th_b (th_ir x 0 64)))) := by
  refine th_M.intro (by decide) (Nat.le_of_ble_eq_true rfl) ?_
  intro p e s m args below meth c ls Q hQ C hKN hl hS
  obtain ⟨hx, hb, hr, hml, hown, hts, hlk, hnm⟩ := C
  obtain ⟨hK, hN⟩ := hKN
  have hown : s.vm.findClass RX6 = some m.cls := hown
  have hl : lv_has ls 1 [(0, .int x)] := hl
  refine lv_iload_n hx hb dX6_isKey_0 rfl (lv_at hl 0 rfl) ?_
  refine lv_iconst (v := nI 0) hx hb dX6_isKey_1 (by decide) ?_
  refine lv_bipush (v := nI 63) hx hb dX6_isKey_2 (by decide) ?_
  refine th_callS hx hb hml hown hts ⟨hK, hN⟩ hl hS (rest := []) (c_X6_in l Y _ x (nI 0) (nI 63)) ok_X6_in tw_3_234 dX6_isKey_4 rfl rfl (Nat.le_of_ble_eq_true rfl) ⟨Nat.le_of_ble_eq_true rfl, Nat.le_of_ble_eq_true rfl⟩ ⟨Nat.le_of_ble_eq_true rfl, Nat.le_of_ble_eq_true rfl⟩ (fun _ h => h.elim) (th_kpi (fun locs hS => ?_))
  refine th_zret hx hb hr hlk hQ hS dX6_isKey_7 (Nat.le_of_ble_eq_true rfl) (Nat.le_of_ble_eq_true rfl) (by first | exact Or.inl rfl | exact Or.inr rfl | assumption | exact th_b01 _) ?_
  exact ⟨by rw [th_bE (th_irP (by decide) (by decide))], rfl⟩

set_option maxRecDepth 100000 in
set_option maxHeartbeats 800000 in
theorem c_X6_isWatcher (l : Launch) (Y : th_Y) (H : Heap) (x : Int32) : th_P l Y yX6_isWatcher cX6_isWatcher 1 (some .boolean) (th_rm 1 0 0) [.int x] H (fun r9 => r9 = some (.int (th_b (th_ir x 0 4)))) := by
  refine th_M.intro (by decide) (Nat.le_of_ble_eq_true rfl) ?_
  intro p e s m args below meth c ls Q hQ C hKN hl hS
  obtain ⟨hx, hb, hr, hml, hown, hts, hlk, hnm⟩ := C
  obtain ⟨hK, hN⟩ := hKN
  have hown : s.vm.findClass RX6 = some m.cls := hown
  have hl : lv_has ls 1 [(0, .int x)] := hl
  refine lv_iload_n hx hb dX6_isWatcher_0 rfl (lv_at hl 0 rfl) ?_
  refine lv_iconst (v := nI 0) hx hb dX6_isWatcher_1 (by decide) ?_
  refine lv_iconst (v := nI 3) hx hb dX6_isWatcher_2 (by decide) ?_
  refine th_callS hx hb hml hown hts ⟨hK, hN⟩ hl hS (rest := []) (c_X6_in l Y _ x (nI 0) (nI 3)) ok_X6_in tw_3_234 dX6_isWatcher_3 rfl rfl (Nat.le_of_ble_eq_true rfl) ⟨Nat.le_of_ble_eq_true rfl, Nat.le_of_ble_eq_true rfl⟩ ⟨Nat.le_of_ble_eq_true rfl, Nat.le_of_ble_eq_true rfl⟩ (fun _ h => h.elim) (th_kpi (fun locs hS => ?_))
  refine th_zret hx hb hr hlk hQ hS dX6_isWatcher_6 (Nat.le_of_ble_eq_true rfl) (Nat.le_of_ble_eq_true rfl) (by first | exact Or.inl rfl | exact Or.inr rfl | assumption | exact th_b01 _) ?_
  exact ⟨by rw [th_bE (th_irP (by decide) (by decide))], rfl⟩

set_option maxRecDepth 100000 in
set_option maxHeartbeats 800000 in
theorem c_X6_isView (l : Launch) (Y : th_Y) (H : Heap) (ro : Nat → Nat) (thr stp efr esz etr : Int32) (vw sm : Nat) (hP : va_P Y.1 vwCl [(ro 0, .inr (6, [.int thr, .ref (ro 1), .ref (ro 2), .int (nI vw), .ref (ro 3), .ref (ro 4), .ref (ro 5), .int (nI sm), .ref (ro 6), .ref (ro 7), .int stp, .int efr, .int esz, .int etr, .ref (ro 8), .ref (ro 9), .ref (ro 10), .ref (ro 11), .ref (ro 12), .ref (ro 13), .ref (ro 14), .ref (ro 15)]))] H) (h1 : 1 ≤ vw) (h3 : vw ≤ 3) (x : Int32) : th_P l Y yX6_isView cX6_isView 2 (some .boolean) (th_rm 1 0 0) [.ref (ro 0), .int x] H (fun r9 => r9 = some (.int (th_b (th_ir x 0 vw)))) := by
  refine th_M.intro (by decide) (Nat.le_of_ble_eq_true rfl) ?_
  intro p e s m args below meth c ls Q hQ C hKN hl hS
  obtain ⟨hx, hb, hr, hml, hown, hts, hlk, hnm⟩ := C
  obtain ⟨hK, hN⟩ := hKN
  have hown : s.vm.findClass RX6 = some m.cls := hown
  have hl : lv_has ls 2 [(0, .ref (ro 0)), (1, .int x)] := hl
  refine lv_iload_n hx hb dX6_isView_0 rfl (lv_at hl 1 rfl) ?_
  refine lv_iconst (v := nI 0) hx hb dX6_isView_1 (by decide) ?_
  refine lv_aload_n hx hb dX6_isView_2 rfl (lv_at hl 0 rfl) ?_
  refine va_get (D := Y.1) (ci := 6) (v := .int (nI vw)) (C := RX6) (T := TX6) (N := 22) hx hb hts inX6 hown hK hP 0 rfl rfl 3 (by decide) (hts _ tw_3_158) (fun _ h9 => h9) rfl dX6_isView_3 ?_
  refine lv_iconst (v := nI 1) hx hb dX6_isView_6 (by decide) ?_
  refine lv_isub hx hb dX6_isView_7 ?_
  refine th_ti (pk_sub (by omega)) ?_
  refine th_callS hx hb hml hown hts ⟨hK, hN⟩ hl hS (rest := []) (c_X6_in l Y _ x (nI 0) (nI (vw - 1))) ok_X6_in tw_3_234 dX6_isView_8 rfl rfl (Nat.le_of_ble_eq_true rfl) ⟨Nat.le_of_ble_eq_true rfl, Nat.le_of_ble_eq_true rfl⟩ ⟨Nat.le_of_ble_eq_true rfl, Nat.le_of_ble_eq_true rfl⟩ (fun _ h => h.elim) (th_kpi (fun locs hS => ?_))
  refine th_zret hx hb hr hlk hQ hS dX6_isView_11 (Nat.le_of_ble_eq_true rfl) (Nat.le_of_ble_eq_true rfl) (by first | exact Or.inl rfl | exact Or.inr rfl | assumption | exact th_b01 _) ?_
  exact ⟨by rw [th_bE (th_irP (by decide) (by omega)), show vw - 1 + 1 = vw by omega], rfl⟩

set_option maxRecDepth 100000 in
set_option maxHeartbeats 800000 in
theorem c_X6_isSize (l : Launch) (Y : th_Y) (H : Heap) (ro : Nat → Nat) (thr stp efr esz etr : Int32) (vw sm : Nat) (siz : Nat → Int32) (hP : va_P Y.1 vwCl [(ro 0, .inr (6, [.int thr, .ref (ro 1), .ref (ro 2), .int (nI vw), .ref (ro 3), .ref (ro 4), .ref (ro 5), .int (nI sm), .ref (ro 6), .ref (ro 7), .int stp, .int efr, .int esz, .int etr, .ref (ro 8), .ref (ro 9), .ref (ro 10), .ref (ro 11), .ref (ro 12), .ref (ro 13), .ref (ro 14), .ref (ro 15)])), (ro 2, .inl (Y.2 0, 3, .inl siz))] H) (i n : Nat) (hi : i < 3) (hsi : siz i = nI n) (hn : n ≤ 100) (x : Int32) : th_P l Y yX6_isSize cX6_isSize 3 (some .boolean) (th_rm 1 0 0) [.ref (ro 0), .int (nI i), .int x] H (fun r9 => r9 = some (.int (th_b (th_ir x 1 (n + 1))))) := by
  refine th_M.intro (by decide) (Nat.le_of_ble_eq_true rfl) ?_
  intro p e s m args below meth c ls Q hQ C hKN hl hS
  obtain ⟨hx, hb, hr, hml, hown, hts, hlk, hnm⟩ := C
  obtain ⟨hK, hN⟩ := hKN
  have hown : s.vm.findClass RX6 = some m.cls := hown
  have hl : lv_has ls 3 [(0, .ref (ro 0)), (1, .int (nI i)), (2, .int x)] := hl
  refine lv_iload_n hx hb dX6_isSize_0 rfl (lv_at hl 2 rfl) ?_
  refine lv_iconst (v := nI 1) hx hb dX6_isSize_1 (by decide) ?_
  refine lv_aload_n hx hb dX6_isSize_2 rfl (lv_at hl 0 rfl) ?_
  refine va_get (D := Y.1) (ci := 6) (v := .ref (ro 2)) (C := RX6) (T := TX6) (N := 22) hx hb hts inX6 hown hK hP 0 rfl rfl 2 (by decide) (hts _ tw_3_157) (fun _ h9 => h9) rfl dX6_isSize_3 ?_
  refine lv_iload_n hx hb dX6_isSize_6 rfl (lv_at hl 1 rfl) ?_
  refine th_iald hx hb hK hP 1 rfl (j := i) (by omega) (by omega) dX6_isSize_7 ?_
  refine th_ti (show siz i = nI n from hsi) ?_
  refine th_callS hx hb hml hown hts ⟨hK, hN⟩ hl hS (rest := []) (c_X6_in l Y _ x (nI 1) (nI n)) ok_X6_in tw_3_234 dX6_isSize_8 rfl rfl (Nat.le_of_ble_eq_true rfl) ⟨Nat.le_of_ble_eq_true rfl, Nat.le_of_ble_eq_true rfl⟩ ⟨Nat.le_of_ble_eq_true rfl, Nat.le_of_ble_eq_true rfl⟩ (fun _ h => h.elim) (th_kpi (fun locs hS => ?_))
  refine th_zret hx hb hr hlk hQ hS dX6_isSize_11 (Nat.le_of_ble_eq_true rfl) (Nat.le_of_ble_eq_true rfl) (by first | exact Or.inl rfl | exact Or.inr rfl | assumption | exact th_b01 _) ?_
  exact ⟨by rw [th_bE (th_irP (by decide) (by omega))], rfl⟩

set_option maxRecDepth 100000 in
set_option maxHeartbeats 800000 in
theorem c_X6_goesWell (l : Launch) (Y : th_Y) (H0 : Heap) (ro : Nat → Nat) (thr stp efr esz etr : Int32) (vw sm : Nat) (hP : va_P Y.1 vwCl [(ro 0, .inr (6, [.int thr, .ref (ro 1), .ref (ro 2), .int (nI vw), .ref (ro 3), .ref (ro 4), .ref (ro 5), .int (nI sm), .ref (ro 6), .ref (ro 7), .int stp, .int efr, .int esz, .int etr, .ref (ro 8), .ref (ro 9), .ref (ro 10), .ref (ro 11), .ref (ro 12), .ref (ro 13), .ref (ro 14), .ref (ro 15)]))] H0) (k : Nat) (hk : k ≤ 3) : th_M l Y yX6_goesWell cX6_goesWell 2 (some .boolean) (th_rm 0 0 0) [.ref (ro 0), .int (nI k)] H0 (fun z => z ∈ [ro 0]) (fun r' H' => ∃ x' : Int32, r' = some (.int x') ∧ x' = (if k = 0 then nI 1 else nI 0) ∧ va_P Y.1 vwCl [(ro 0, .inr (6, [.int (nI k), .ref (ro 1), .ref (ro 2), .int (nI vw), .ref (ro 3), .ref (ro 4), .ref (ro 5), .int (nI sm), .ref (ro 6), .ref (ro 7), .int stp, .int efr, .int esz, .int etr, .ref (ro 8), .ref (ro 9), .ref (ro 10), .ref (ro 11), .ref (ro 12), .ref (ro 13), .ref (ro 14), .ref (ro 15)]))] H') := by
  refine th_M.intro (by decide) (Nat.le_of_ble_eq_true rfl) ?_
  intro p e s m args below meth c ls Q hQ C hKN hl hS
  obtain ⟨hx, hb, hr, hml, hown, hts, hlk, hnm⟩ := C
  obtain ⟨hK, hN⟩ := hKN
  have hown : s.vm.findClass RX6 = some m.cls := hown
  have hl : lv_has ls 2 [(0, .ref (ro 0)), (1, .int (nI k))] := hl
  have hD : va_D (fun z => z ∈ [ro 0]) [(ro 0, .inr (6, [.int thr, .ref (ro 1), .ref (ro 2), .int (nI vw), .ref (ro 3), .ref (ro 4), .ref (ro 5), .int (nI sm), .ref (ro 6), .ref (ro 7), .int stp, .int efr, .int esz, .int etr, .ref (ro 8), .ref (ro 9), .ref (ro 10), .ref (ro 11), .ref (ro 12), .ref (ro 13), .ref (ro 14), .ref (ro 15)]))] := th_D1 (List.mem_cons_self)
  refine lv_aload_n hx hb dX6_goesWell_0 rfl (lv_at hl 0 rfl) ?_
  refine lv_iload_n hx hb dX6_goesWell_1 rfl (lv_at hl 1 rfl) ?_
  refine va_put (D := Y.1) (ci := 6) (v := .int (nI k)) (ty := .int) (C := RX6) (T := TX6) (N := 22) hx hb hts inX6 tyX6 tyX6_ok nmX6 hown hK hP hD hS 0 rfl rfl 0 (by decide) (hts _ tw_3_155) (fun _ h9 => h9) rfl (by decide +kernel) rfl rfl (Nat.le_of_ble_eq_true rfl) dX6_goesWell_2 (fun H locs hP hD hS => ?_)
  have hP : va_P Y.1 vwCl [(ro 0, .inr (6, [.int (nI k), .ref (ro 1), .ref (ro 2), .int (nI vw), .ref (ro 3), .ref (ro 4), .ref (ro 5), .int (nI sm), .ref (ro 6), .ref (ro 7), .int stp, .int efr, .int esz, .int etr, .ref (ro 8), .ref (ro 9), .ref (ro 10), .ref (ro 11), .ref (ro 12), .ref (ro 13), .ref (ro 14), .ref (ro 15)]))] _ := hP
  have hD : va_D _ [(ro 0, .inr (6, [.int (nI k), .ref (ro 1), .ref (ro 2), .int (nI vw), .ref (ro 3), .ref (ro 4), .ref (ro 5), .int (nI sm), .ref (ro 6), .ref (ro 7), .int stp, .int efr, .int esz, .int etr, .ref (ro 8), .ref (ro 9), .ref (ro 10), .ref (ro 11), .ref (ro 12), .ref (ro 13), .ref (ro 14), .ref (ro 15)]))] := hD
  refine lv_iload_n hx hb dX6_goesWell_5 rfl (lv_at hl 1 rfl) ?_
  refine th_zne (tgt := 13) hx hb dX6_goesWell_6 (by decide) (by omega) (fun c_1 => ?_) (fun c_1 => ?_)
  · skip
    refine lv_iconst (v := nI 0) hx hb dX6_goesWell_13 (by decide) ?_
    refine th_zret hx hb hr hlk hQ hS dX6_goesWell_14 (Nat.le_of_ble_eq_true rfl) (Nat.le_of_ble_eq_true rfl) (by first | exact Or.inl rfl | exact Or.inr rfl | assumption | exact th_b01 _) ?_
    exact ⟨_, rfl, (if_neg c_1).symm, hP⟩
  refine lv_iconst (v := nI 1) hx hb dX6_goesWell_9 (by decide) ?_
  refine lv_goto (tgt := 14) hx hb dX6_goesWell_10 (by decide) ?_
  refine th_zret hx hb hr hlk hQ hS dX6_goesWell_14 (Nat.le_of_ble_eq_true rfl) (Nat.le_of_ble_eq_true rfl) (by first | exact Or.inl rfl | exact Or.inr rfl | assumption | exact th_b01 _) ?_
  exact ⟨_, rfl, (if_pos c_1).symm, hP⟩

set_option maxRecDepth 100000 in
set_option maxHeartbeats 800000 in
theorem c_X6_thrown (l : Launch) (Y : th_Y) (H : Heap) (ro : Nat → Nat) (thr stp efr esz etr : Int32) (vw sm : Nat) (hP : va_P Y.1 vwCl [(ro 0, .inr (6, [.int thr, .ref (ro 1), .ref (ro 2), .int (nI vw), .ref (ro 3), .ref (ro 4), .ref (ro 5), .int (nI sm), .ref (ro 6), .ref (ro 7), .int stp, .int efr, .int esz, .int etr, .ref (ro 8), .ref (ro 9), .ref (ro 10), .ref (ro 11), .ref (ro 12), .ref (ro 13), .ref (ro 14), .ref (ro 15)]))] H) : th_P l Y yX6_thrown cX6_thrown 1 (some .int) (th_rm 0 0 0) [.ref (ro 0)] H (fun r9 => r9 = some (.int thr)) := by
  refine th_M.intro (by decide) (Nat.le_of_ble_eq_true rfl) ?_
  intro p e s m args below meth c ls Q hQ C hKN hl hS
  obtain ⟨hx, hb, hr, hml, hown, hts, hlk, hnm⟩ := C
  obtain ⟨hK, hN⟩ := hKN
  have hown : s.vm.findClass RX6 = some m.cls := hown
  have hl : lv_has ls 1 [(0, .ref (ro 0))] := hl
  refine lv_aload_n hx hb dX6_thrown_0 rfl (lv_at hl 0 rfl) ?_
  refine va_get (D := Y.1) (ci := 6) (v := .int thr) (C := RX6) (T := TX6) (N := 22) hx hb hts inX6 hown hK hP 0 rfl rfl 0 (by decide) (hts _ tw_3_155) (fun _ h9 => h9) rfl dX6_thrown_1 ?_
  refine th_iret hx hb hr hlk hQ hS dX6_thrown_4 (Nat.le_of_ble_eq_true rfl) (Nat.le_of_ble_eq_true rfl) ?_
  exact ⟨rfl, rfl⟩

set_option maxRecDepth 100000 in
set_option maxHeartbeats 800000 in
theorem c_X6_views (l : Launch) (Y : th_Y) (H0 : Heap) (ro : Nat → Nat) (hJ : th_gJ ro 16) (S : th_S) (thr stp efr esz etr : Int32) (val siz tre spa pro bes isr key lev kvi ksz krt ala fol cts : Nat → Int32) (hP : va_P Y.1 vwCl [(ro 0, .inr (6, [.int thr, .ref (ro 1), .ref (ro 2), .int (nI S.1), .ref (ro 3), .ref (ro 4), .ref (ro 5), .int (nI S.2.2.2.1), .ref (ro 6), .ref (ro 7), .int stp, .int efr, .int esz, .int etr, .ref (ro 8), .ref (ro 9), .ref (ro 10), .ref (ro 11), .ref (ro 12), .ref (ro 13), .ref (ro 14), .ref (ro 15)])), (ro 1, .inl (Y.2 0, 300, .inl val)), (ro 2, .inl (Y.2 0, 3, .inl siz)), (ro 3, .inl (Y.2 0, 8, .inl tre)), (ro 4, .inl (Y.2 0, 8, .inl spa)), (ro 5, .inl (Y.2 0, 12, .inl pro)), (ro 6, .inl (Y.2 0, 12, .inl bes)), (ro 7, .inl (Y.2 1, 12, .inl isr)), (ro 8, .inl (Y.2 0, 64, .inl key)), (ro 9, .inl (Y.2 0, 64, .inl lev)), (ro 10, .inl (Y.2 0, 4, .inl kvi)), (ro 11, .inl (Y.2 0, 4, .inl ksz)), (ro 12, .inl (Y.2 0, 4, .inl krt)), (ro 13, .inl (Y.2 1, 4, .inl ala)), (ro 14, .inl (Y.2 0, 4, .inl fol)), (ro 15, .inl (Y.2 0, 4, .inl cts))] H0) (hv : th_RIv S val siz pro key kvi ksz krt ala fol cts) : th_M l Y yX6_views cX6_views 1 (some .int) (th_rm 6 0 0) [.ref (ro 0)] H0 (fun z => z ∈ [ro 0, ro 1, ro 2, ro 3, ro 4, ro 5, ro 6, ro 7, ro 8, ro 9, ro 10, ro 11, ro 12, ro 13, ro 14, ro 15]) (th_ro Y ro (sp_views S)) := by
  refine th_M.intro (by decide) (Nat.le_of_ble_eq_true rfl) ?_
  intro p e s m args below meth c ls Q hQ C hKN hl hS
  obtain ⟨hx, hb, hr, hml, hown, hts, hlk, hnm⟩ := C
  obtain ⟨hK, hN⟩ := hKN
  have hown : s.vm.findClass RX6 = some m.cls := hown
  have hl : lv_has ls 1 [(0, .ref (ro 0))] := hl
  have hD : va_D (fun z => z ∈ [ro 0, ro 1, ro 2, ro 3, ro 4, ro 5, ro 6, ro 7, ro 8, ro 9, ro 10, ro 11, ro 12, ro 13, ro 14, ro 15]) [(ro 0, .inr (6, [.int thr, .ref (ro 1), .ref (ro 2), .int (nI S.1), .ref (ro 3), .ref (ro 4), .ref (ro 5), .int (nI S.2.2.2.1), .ref (ro 6), .ref (ro 7), .int stp, .int efr, .int esz, .int etr, .ref (ro 8), .ref (ro 9), .ref (ro 10), .ref (ro 11), .ref (ro 12), .ref (ro 13), .ref (ro 14), .ref (ro 15)])), (ro 1, .inl (Y.2 0, 300, .inl val)), (ro 2, .inl (Y.2 0, 3, .inl siz)), (ro 3, .inl (Y.2 0, 8, .inl tre)), (ro 4, .inl (Y.2 0, 8, .inl spa)), (ro 5, .inl (Y.2 0, 12, .inl pro)), (ro 6, .inl (Y.2 0, 12, .inl bes)), (ro 7, .inl (Y.2 1, 12, .inl isr)), (ro 8, .inl (Y.2 0, 64, .inl key)), (ro 9, .inl (Y.2 0, 64, .inl lev)), (ro 10, .inl (Y.2 0, 4, .inl kvi)), (ro 11, .inl (Y.2 0, 4, .inl ksz)), (ro 12, .inl (Y.2 0, 4, .inl krt)), (ro 13, .inl (Y.2 1, 4, .inl ala)), (ro 14, .inl (Y.2 0, 4, .inl fol)), (ro 15, .inl (Y.2 0, 4, .inl cts))] := th_mem (th_gD hJ [0, 1, 2, 3, 4, 5, 6, 7, 8, 9, 10, 11, 12, 13, 14, 15] (fun k9 hk9 => by simp only [List.mem_cons, List.not_mem_nil, or_false] at hk9; omega) th_nd16 rfl)
  have hv1 := hv.1
  have hv12 := hv.2.2.1
  refine lv_aload_n hx hb dX6_views_0 rfl (lv_at hl 0 rfl) ?_
  refine lv_iconst (v := nI 0) hx hb dX6_views_1 (by decide) ?_
  refine va_put (D := Y.1) (ci := 6) (v := .int (nI 0)) (ty := .int) (C := RX6) (T := TX6) (N := 22) hx hb hts inX6 tyX6 tyX6_ok nmX6 hown hK hP hD hS 0 rfl rfl 0 (by decide) (hts _ tw_3_155) (fun _ h9 => h9) rfl (by decide +kernel) rfl rfl (Nat.le_of_ble_eq_true rfl) dX6_views_2 (fun H locs hP hD hS => ?_)
  have hP : va_P Y.1 vwCl [(ro 0, .inr (6, [.int (nI 0), .ref (ro 1), .ref (ro 2), .int (nI S.1), .ref (ro 3), .ref (ro 4), .ref (ro 5), .int (nI S.2.2.2.1), .ref (ro 6), .ref (ro 7), .int stp, .int efr, .int esz, .int etr, .ref (ro 8), .ref (ro 9), .ref (ro 10), .ref (ro 11), .ref (ro 12), .ref (ro 13), .ref (ro 14), .ref (ro 15)])), (ro 1, .inl (Y.2 0, 300, .inl val)), (ro 2, .inl (Y.2 0, 3, .inl siz)), (ro 3, .inl (Y.2 0, 8, .inl tre)), (ro 4, .inl (Y.2 0, 8, .inl spa)), (ro 5, .inl (Y.2 0, 12, .inl pro)), (ro 6, .inl (Y.2 0, 12, .inl bes)), (ro 7, .inl (Y.2 1, 12, .inl isr)), (ro 8, .inl (Y.2 0, 64, .inl key)), (ro 9, .inl (Y.2 0, 64, .inl lev)), (ro 10, .inl (Y.2 0, 4, .inl kvi)), (ro 11, .inl (Y.2 0, 4, .inl ksz)), (ro 12, .inl (Y.2 0, 4, .inl krt)), (ro 13, .inl (Y.2 1, 4, .inl ala)), (ro 14, .inl (Y.2 0, 4, .inl fol)), (ro 15, .inl (Y.2 0, 4, .inl cts))] _ := hP
  have hD : va_D _ [(ro 0, .inr (6, [.int (nI 0), .ref (ro 1), .ref (ro 2), .int (nI S.1), .ref (ro 3), .ref (ro 4), .ref (ro 5), .int (nI S.2.2.2.1), .ref (ro 6), .ref (ro 7), .int stp, .int efr, .int esz, .int etr, .ref (ro 8), .ref (ro 9), .ref (ro 10), .ref (ro 11), .ref (ro 12), .ref (ro 13), .ref (ro 14), .ref (ro 15)])), (ro 1, .inl (Y.2 0, 300, .inl val)), (ro 2, .inl (Y.2 0, 3, .inl siz)), (ro 3, .inl (Y.2 0, 8, .inl tre)), (ro 4, .inl (Y.2 0, 8, .inl spa)), (ro 5, .inl (Y.2 0, 12, .inl pro)), (ro 6, .inl (Y.2 0, 12, .inl bes)), (ro 7, .inl (Y.2 1, 12, .inl isr)), (ro 8, .inl (Y.2 0, 64, .inl key)), (ro 9, .inl (Y.2 0, 64, .inl lev)), (ro 10, .inl (Y.2 0, 4, .inl kvi)), (ro 11, .inl (Y.2 0, 4, .inl ksz)), (ro 12, .inl (Y.2 0, 4, .inl krt)), (ro 13, .inl (Y.2 1, 4, .inl ala)), (ro 14, .inl (Y.2 0, 4, .inl fol)), (ro 15, .inl (Y.2 0, 4, .inl cts))] := hD
  refine lv_aload_n hx hb dX6_views_5 rfl (lv_at hl 0 rfl) ?_
  refine va_get (D := Y.1) (ci := 6) (v := .int (nI S.1)) (C := RX6) (T := TX6) (N := 22) hx hb hts inX6 hown hK hP 0 rfl rfl 3 (by decide) (hts _ tw_3_158) (fun _ h9 => h9) rfl dX6_views_6 ?_
  refine th_iret hx hb hr hlk hQ hS dX6_views_9 (Nat.le_of_ble_eq_true rfl) (Nat.le_of_ble_eq_true rfl) ?_
  show th_ro Y ro (_) _ _
  unfold sp_views
  exact th_roT (rfl) (th_rgI hP (hv))
  

set_option maxRecDepth 100000 in
set_option maxHeartbeats 800000 in
theorem c_X6_sums (l : Launch) (Y : th_Y) (H0 : Heap) (ro : Nat → Nat) (hJ : th_gJ ro 16) (S : th_S) (thr stp efr esz etr : Int32) (val siz tre spa pro bes isr key lev kvi ksz krt ala fol cts : Nat → Int32) (hP : va_P Y.1 vwCl [(ro 0, .inr (6, [.int thr, .ref (ro 1), .ref (ro 2), .int (nI S.1), .ref (ro 3), .ref (ro 4), .ref (ro 5), .int (nI S.2.2.2.1), .ref (ro 6), .ref (ro 7), .int stp, .int efr, .int esz, .int etr, .ref (ro 8), .ref (ro 9), .ref (ro 10), .ref (ro 11), .ref (ro 12), .ref (ro 13), .ref (ro 14), .ref (ro 15)])), (ro 1, .inl (Y.2 0, 300, .inl val)), (ro 2, .inl (Y.2 0, 3, .inl siz)), (ro 3, .inl (Y.2 0, 8, .inl tre)), (ro 4, .inl (Y.2 0, 8, .inl spa)), (ro 5, .inl (Y.2 0, 12, .inl pro)), (ro 6, .inl (Y.2 0, 12, .inl bes)), (ro 7, .inl (Y.2 1, 12, .inl isr)), (ro 8, .inl (Y.2 0, 64, .inl key)), (ro 9, .inl (Y.2 0, 64, .inl lev)), (ro 10, .inl (Y.2 0, 4, .inl kvi)), (ro 11, .inl (Y.2 0, 4, .inl ksz)), (ro 12, .inl (Y.2 0, 4, .inl krt)), (ro 13, .inl (Y.2 1, 4, .inl ala)), (ro 14, .inl (Y.2 0, 4, .inl fol)), (ro 15, .inl (Y.2 0, 4, .inl cts))] H0) (hv : th_RIv S val siz pro key kvi ksz krt ala fol cts) : th_M l Y yX6_sums cX6_sums 1 (some .int) (th_rm 6 0 0) [.ref (ro 0)] H0 (fun z => z ∈ [ro 0, ro 1, ro 2, ro 3, ro 4, ro 5, ro 6, ro 7, ro 8, ro 9, ro 10, ro 11, ro 12, ro 13, ro 14, ro 15]) (th_ro Y ro (sp_sums S)) := by
  refine th_M.intro (by decide) (Nat.le_of_ble_eq_true rfl) ?_
  intro p e s m args below meth c ls Q hQ C hKN hl hS
  obtain ⟨hx, hb, hr, hml, hown, hts, hlk, hnm⟩ := C
  obtain ⟨hK, hN⟩ := hKN
  have hown : s.vm.findClass RX6 = some m.cls := hown
  have hl : lv_has ls 1 [(0, .ref (ro 0))] := hl
  have hD : va_D (fun z => z ∈ [ro 0, ro 1, ro 2, ro 3, ro 4, ro 5, ro 6, ro 7, ro 8, ro 9, ro 10, ro 11, ro 12, ro 13, ro 14, ro 15]) [(ro 0, .inr (6, [.int thr, .ref (ro 1), .ref (ro 2), .int (nI S.1), .ref (ro 3), .ref (ro 4), .ref (ro 5), .int (nI S.2.2.2.1), .ref (ro 6), .ref (ro 7), .int stp, .int efr, .int esz, .int etr, .ref (ro 8), .ref (ro 9), .ref (ro 10), .ref (ro 11), .ref (ro 12), .ref (ro 13), .ref (ro 14), .ref (ro 15)])), (ro 1, .inl (Y.2 0, 300, .inl val)), (ro 2, .inl (Y.2 0, 3, .inl siz)), (ro 3, .inl (Y.2 0, 8, .inl tre)), (ro 4, .inl (Y.2 0, 8, .inl spa)), (ro 5, .inl (Y.2 0, 12, .inl pro)), (ro 6, .inl (Y.2 0, 12, .inl bes)), (ro 7, .inl (Y.2 1, 12, .inl isr)), (ro 8, .inl (Y.2 0, 64, .inl key)), (ro 9, .inl (Y.2 0, 64, .inl lev)), (ro 10, .inl (Y.2 0, 4, .inl kvi)), (ro 11, .inl (Y.2 0, 4, .inl ksz)), (ro 12, .inl (Y.2 0, 4, .inl krt)), (ro 13, .inl (Y.2 1, 4, .inl ala)), (ro 14, .inl (Y.2 0, 4, .inl fol)), (ro 15, .inl (Y.2 0, 4, .inl cts))] := th_mem (th_gD hJ [0, 1, 2, 3, 4, 5, 6, 7, 8, 9, 10, 11, 12, 13, 14, 15] (fun k9 hk9 => by simp only [List.mem_cons, List.not_mem_nil, or_false] at hk9; omega) th_nd16 rfl)
  have hv1 := hv.1
  have hv12 := hv.2.2.1
  refine lv_aload_n hx hb dX6_sums_0 rfl (lv_at hl 0 rfl) ?_
  refine lv_iconst (v := nI 0) hx hb dX6_sums_1 (by decide) ?_
  refine va_put (D := Y.1) (ci := 6) (v := .int (nI 0)) (ty := .int) (C := RX6) (T := TX6) (N := 22) hx hb hts inX6 tyX6 tyX6_ok nmX6 hown hK hP hD hS 0 rfl rfl 0 (by decide) (hts _ tw_3_155) (fun _ h9 => h9) rfl (by decide +kernel) rfl rfl (Nat.le_of_ble_eq_true rfl) dX6_sums_2 (fun H locs hP hD hS => ?_)
  have hP : va_P Y.1 vwCl [(ro 0, .inr (6, [.int (nI 0), .ref (ro 1), .ref (ro 2), .int (nI S.1), .ref (ro 3), .ref (ro 4), .ref (ro 5), .int (nI S.2.2.2.1), .ref (ro 6), .ref (ro 7), .int stp, .int efr, .int esz, .int etr, .ref (ro 8), .ref (ro 9), .ref (ro 10), .ref (ro 11), .ref (ro 12), .ref (ro 13), .ref (ro 14), .ref (ro 15)])), (ro 1, .inl (Y.2 0, 300, .inl val)), (ro 2, .inl (Y.2 0, 3, .inl siz)), (ro 3, .inl (Y.2 0, 8, .inl tre)), (ro 4, .inl (Y.2 0, 8, .inl spa)), (ro 5, .inl (Y.2 0, 12, .inl pro)), (ro 6, .inl (Y.2 0, 12, .inl bes)), (ro 7, .inl (Y.2 1, 12, .inl isr)), (ro 8, .inl (Y.2 0, 64, .inl key)), (ro 9, .inl (Y.2 0, 64, .inl lev)), (ro 10, .inl (Y.2 0, 4, .inl kvi)), (ro 11, .inl (Y.2 0, 4, .inl ksz)), (ro 12, .inl (Y.2 0, 4, .inl krt)), (ro 13, .inl (Y.2 1, 4, .inl ala)), (ro 14, .inl (Y.2 0, 4, .inl fol)), (ro 15, .inl (Y.2 0, 4, .inl cts))] _ := hP
  have hD : va_D _ [(ro 0, .inr (6, [.int (nI 0), .ref (ro 1), .ref (ro 2), .int (nI S.1), .ref (ro 3), .ref (ro 4), .ref (ro 5), .int (nI S.2.2.2.1), .ref (ro 6), .ref (ro 7), .int stp, .int efr, .int esz, .int etr, .ref (ro 8), .ref (ro 9), .ref (ro 10), .ref (ro 11), .ref (ro 12), .ref (ro 13), .ref (ro 14), .ref (ro 15)])), (ro 1, .inl (Y.2 0, 300, .inl val)), (ro 2, .inl (Y.2 0, 3, .inl siz)), (ro 3, .inl (Y.2 0, 8, .inl tre)), (ro 4, .inl (Y.2 0, 8, .inl spa)), (ro 5, .inl (Y.2 0, 12, .inl pro)), (ro 6, .inl (Y.2 0, 12, .inl bes)), (ro 7, .inl (Y.2 1, 12, .inl isr)), (ro 8, .inl (Y.2 0, 64, .inl key)), (ro 9, .inl (Y.2 0, 64, .inl lev)), (ro 10, .inl (Y.2 0, 4, .inl kvi)), (ro 11, .inl (Y.2 0, 4, .inl ksz)), (ro 12, .inl (Y.2 0, 4, .inl krt)), (ro 13, .inl (Y.2 1, 4, .inl ala)), (ro 14, .inl (Y.2 0, 4, .inl fol)), (ro 15, .inl (Y.2 0, 4, .inl cts))] := hD
  refine lv_aload_n hx hb dX6_sums_5 rfl (lv_at hl 0 rfl) ?_
  refine va_get (D := Y.1) (ci := 6) (v := .int (nI S.2.2.2.1)) (C := RX6) (T := TX6) (N := 22) hx hb hts inX6 hown hK hP 0 rfl rfl 7 (by decide) (hts _ tw_3_162) (fun _ h9 => h9) rfl dX6_sums_6 ?_
  refine th_iret hx hb hr hlk hQ hS dX6_sums_9 (Nat.le_of_ble_eq_true rfl) (Nat.le_of_ble_eq_true rfl) ?_
  show th_ro Y ro (_) _ _
  unfold sp_sums
  exact th_roT (rfl) (th_rgI hP (hv))
  

set_option maxRecDepth 100000 in
set_option maxHeartbeats 800000 in
theorem c_X6_size (l : Launch) (Y : th_Y) (H0 : Heap) (ro : Nat → Nat) (hJ : th_gJ ro 16) (S : th_S) (thr stp efr esz etr : Int32) (val siz tre spa pro bes isr key lev kvi ksz krt ala fol cts : Nat → Int32) (hP : va_P Y.1 vwCl [(ro 0, .inr (6, [.int thr, .ref (ro 1), .ref (ro 2), .int (nI S.1), .ref (ro 3), .ref (ro 4), .ref (ro 5), .int (nI S.2.2.2.1), .ref (ro 6), .ref (ro 7), .int stp, .int efr, .int esz, .int etr, .ref (ro 8), .ref (ro 9), .ref (ro 10), .ref (ro 11), .ref (ro 12), .ref (ro 13), .ref (ro 14), .ref (ro 15)])), (ro 1, .inl (Y.2 0, 300, .inl val)), (ro 2, .inl (Y.2 0, 3, .inl siz)), (ro 3, .inl (Y.2 0, 8, .inl tre)), (ro 4, .inl (Y.2 0, 8, .inl spa)), (ro 5, .inl (Y.2 0, 12, .inl pro)), (ro 6, .inl (Y.2 0, 12, .inl bes)), (ro 7, .inl (Y.2 1, 12, .inl isr)), (ro 8, .inl (Y.2 0, 64, .inl key)), (ro 9, .inl (Y.2 0, 64, .inl lev)), (ro 10, .inl (Y.2 0, 4, .inl kvi)), (ro 11, .inl (Y.2 0, 4, .inl ksz)), (ro 12, .inl (Y.2 0, 4, .inl krt)), (ro 13, .inl (Y.2 1, 4, .inl ala)), (ro 14, .inl (Y.2 0, 4, .inl fol)), (ro 15, .inl (Y.2 0, 4, .inl cts))] H0) (hv : th_RIv S val siz pro key kvi ksz krt ala fol cts) (x1 : Int32) : th_M l Y yX6_size cX6_size 2 (some .int) (th_rm 6 0 0) [.ref (ro 0), .int x1] H0 (fun z => z ∈ [ro 0, ro 1, ro 2, ro 3, ro 4, ro 5, ro 6, ro 7, ro 8, ro 9, ro 10, ro 11, ro 12, ro 13, ro 14, ro 15]) (th_ro Y ro (sp_size S x1)) := by
  refine th_M.intro (by decide) (Nat.le_of_ble_eq_true rfl) ?_
  intro p e s m args below meth c ls Q hQ C hKN hl hS
  obtain ⟨hx, hb, hr, hml, hown, hts, hlk, hnm⟩ := C
  obtain ⟨hK, hN⟩ := hKN
  have hown : s.vm.findClass RX6 = some m.cls := hown
  have hl : lv_has ls 2 [(0, .ref (ro 0)), (1, .int x1)] := hl
  have hD : va_D (fun z => z ∈ [ro 0, ro 1, ro 2, ro 3, ro 4, ro 5, ro 6, ro 7, ro 8, ro 9, ro 10, ro 11, ro 12, ro 13, ro 14, ro 15]) [(ro 0, .inr (6, [.int thr, .ref (ro 1), .ref (ro 2), .int (nI S.1), .ref (ro 3), .ref (ro 4), .ref (ro 5), .int (nI S.2.2.2.1), .ref (ro 6), .ref (ro 7), .int stp, .int efr, .int esz, .int etr, .ref (ro 8), .ref (ro 9), .ref (ro 10), .ref (ro 11), .ref (ro 12), .ref (ro 13), .ref (ro 14), .ref (ro 15)])), (ro 1, .inl (Y.2 0, 300, .inl val)), (ro 2, .inl (Y.2 0, 3, .inl siz)), (ro 3, .inl (Y.2 0, 8, .inl tre)), (ro 4, .inl (Y.2 0, 8, .inl spa)), (ro 5, .inl (Y.2 0, 12, .inl pro)), (ro 6, .inl (Y.2 0, 12, .inl bes)), (ro 7, .inl (Y.2 1, 12, .inl isr)), (ro 8, .inl (Y.2 0, 64, .inl key)), (ro 9, .inl (Y.2 0, 64, .inl lev)), (ro 10, .inl (Y.2 0, 4, .inl kvi)), (ro 11, .inl (Y.2 0, 4, .inl ksz)), (ro 12, .inl (Y.2 0, 4, .inl krt)), (ro 13, .inl (Y.2 1, 4, .inl ala)), (ro 14, .inl (Y.2 0, 4, .inl fol)), (ro 15, .inl (Y.2 0, 4, .inl cts))] := th_mem (th_gD hJ [0, 1, 2, 3, 4, 5, 6, 7, 8, 9, 10, 11, 12, 13, 14, 15] (fun k9 hk9 => by simp only [List.mem_cons, List.not_mem_nil, or_false] at hk9; omega) th_nd16 rfl)
  have hv1 := hv.1
  have hv12 := hv.2.2.1
  refine lv_aload_n hx hb dX6_size_0 rfl (lv_at hl 0 rfl) ?_
  refine lv_aload_n hx hb dX6_size_1 rfl (lv_at hl 0 rfl) ?_
  refine lv_iload_n hx hb dX6_size_2 rfl (lv_at hl 1 rfl) ?_
  refine th_callV hx hb hml hown hts ⟨hK, hN⟩ hl hS (hP 0 _ rfl) rfl (rest := [.ref (ro 0)]) (c_X6_isView l Y _ ro thr stp efr esz etr S.1 S.2.2.2.1 (hP.sub (ws' := [(ro 0, .inr (6, [.int thr, .ref (ro 1), .ref (ro 2), .int (nI S.1), .ref (ro 3), .ref (ro 4), .ref (ro 5), .int (nI S.2.2.2.1), .ref (ro 6), .ref (ro 7), .int stp, .int efr, .int esz, .int etr, .ref (ro 8), .ref (ro 9), .ref (ro 10), .ref (ro 11), .ref (ro 12), .ref (ro 13), .ref (ro 14), .ref (ro 15)]))]) [0] rfl) (by omega) (by omega) x1) ok_X6_isView tw_3_230 dX6_size_3 rfl rfl (Nat.le_of_ble_eq_true rfl) ⟨Nat.le_of_ble_eq_true rfl, Nat.le_of_ble_eq_true rfl⟩ ⟨Nat.le_of_ble_eq_true rfl, Nat.le_of_ble_eq_true rfl⟩ (fun _ h => h.elim) (th_kpi (fun locs hS => ?_))
  by_cases q1 : th_ir x1 0 S.1
  · refine th_ti (th_bT q1) ?_
    have uq9 := q1
    obtain ⟨j1, j1a, j1b, ux9⟩ := uq9
    subst ux9
    have zj1 : th_ix (nI j1) = j1 := th_ixN (by omega)
    obtain ⟨hn1, hs1, hf1⟩ := hv.2.1 j1 j1b
    refine th_zeq (tgt := 13) hx hb dX6_size_6 (by decide) (by omega) (fun c_1 => by exfalso; omega) (fun c_1 => ?_)
    refine lv_iconst (v := nI 0) hx hb dX6_size_9 (by decide) ?_
    refine lv_goto (tgt := 14) hx hb dX6_size_10 (by decide) ?_
    refine th_callV hx hb hml hown hts ⟨hK, hN⟩ hl hS (hP 0 _ rfl) rfl (rest := []) (c_X6_goesWell l Y _ ro thr stp efr esz etr S.1 S.2.2.2.1 (hP.sub (ws' := [(ro 0, .inr (6, [.int thr, .ref (ro 1), .ref (ro 2), .int (nI S.1), .ref (ro 3), .ref (ro 4), .ref (ro 5), .int (nI S.2.2.2.1), .ref (ro 6), .ref (ro 7), .int stp, .int efr, .int esz, .int etr, .ref (ro 8), .ref (ro 9), .ref (ro 10), .ref (ro 11), .ref (ro 12), .ref (ro 13), .ref (ro 14), .ref (ro 15)]))]) [0] rfl) 0 (by omega)) ok_X6_goesWell tw_4_1 dX6_size_14 rfl rfl (Nat.le_of_ble_eq_true rfl) ⟨Nat.le_of_ble_eq_true rfl, Nat.le_of_ble_eq_true rfl⟩ ⟨Nat.le_of_ble_eq_true rfl, Nat.le_of_ble_eq_true rfl⟩ (th_subL [0] rfl) (th_ki (fun rz9 H locs hp hsm hS => ?_))
    obtain ⟨hrz, hPc⟩ := hp
    have hP : va_P Y.1 vwCl [(ro 0, .inr (6, [.int (nI 0), .ref (ro 1), .ref (ro 2), .int (nI S.1), .ref (ro 3), .ref (ro 4), .ref (ro 5), .int (nI S.2.2.2.1), .ref (ro 6), .ref (ro 7), .int stp, .int efr, .int esz, .int etr, .ref (ro 8), .ref (ro 9), .ref (ro 10), .ref (ro 11), .ref (ro 12), .ref (ro 13), .ref (ro 14), .ref (ro 15)])), (ro 1, .inl (Y.2 0, 300, .inl val)), (ro 2, .inl (Y.2 0, 3, .inl siz)), (ro 3, .inl (Y.2 0, 8, .inl tre)), (ro 4, .inl (Y.2 0, 8, .inl spa)), (ro 5, .inl (Y.2 0, 12, .inl pro)), (ro 6, .inl (Y.2 0, 12, .inl bes)), (ro 7, .inl (Y.2 1, 12, .inl isr)), (ro 8, .inl (Y.2 0, 64, .inl key)), (ro 9, .inl (Y.2 0, 64, .inl lev)), (ro 10, .inl (Y.2 0, 4, .inl kvi)), (ro 11, .inl (Y.2 0, 4, .inl ksz)), (ro 12, .inl (Y.2 0, 4, .inl krt)), (ro 13, .inl (Y.2 1, 4, .inl ala)), (ro 14, .inl (Y.2 0, 4, .inl fol)), (ro 15, .inl (Y.2 0, 4, .inl cts))] _ := (th_join (wr := [(ro 1, .inl (Y.2 0, 300, .inl val)), (ro 2, .inl (Y.2 0, 3, .inl siz)), (ro 3, .inl (Y.2 0, 8, .inl tre)), (ro 4, .inl (Y.2 0, 8, .inl spa)), (ro 5, .inl (Y.2 0, 12, .inl pro)), (ro 6, .inl (Y.2 0, 12, .inl bes)), (ro 7, .inl (Y.2 1, 12, .inl isr)), (ro 8, .inl (Y.2 0, 64, .inl key)), (ro 9, .inl (Y.2 0, 64, .inl lev)), (ro 10, .inl (Y.2 0, 4, .inl kvi)), (ro 11, .inl (Y.2 0, 4, .inl ksz)), (ro 12, .inl (Y.2 0, 4, .inl krt)), (ro 13, .inl (Y.2 1, 4, .inl ala)), (ro 14, .inl (Y.2 0, 4, .inl fol)), (ro 15, .inl (Y.2 0, 4, .inl cts))]) hP hD [1, 2, 3, 4, 5, 6, 7, 8, 9, 10, 11, 12, 13, 14, 15] [0] rfl rfl (by decide) hsm hPc).sub [15, 0, 1, 2, 3, 4, 5, 6, 7, 8, 9, 10, 11, 12, 13, 14] rfl
    have hD : va_D _ [(ro 0, .inr (6, [.int (nI 0), .ref (ro 1), .ref (ro 2), .int (nI S.1), .ref (ro 3), .ref (ro 4), .ref (ro 5), .int (nI S.2.2.2.1), .ref (ro 6), .ref (ro 7), .int stp, .int efr, .int esz, .int etr, .ref (ro 8), .ref (ro 9), .ref (ro 10), .ref (ro 11), .ref (ro 12), .ref (ro 13), .ref (ro 14), .ref (ro 15)])), (ro 1, .inl (Y.2 0, 300, .inl val)), (ro 2, .inl (Y.2 0, 3, .inl siz)), (ro 3, .inl (Y.2 0, 8, .inl tre)), (ro 4, .inl (Y.2 0, 8, .inl spa)), (ro 5, .inl (Y.2 0, 12, .inl pro)), (ro 6, .inl (Y.2 0, 12, .inl bes)), (ro 7, .inl (Y.2 1, 12, .inl isr)), (ro 8, .inl (Y.2 0, 64, .inl key)), (ro 9, .inl (Y.2 0, 64, .inl lev)), (ro 10, .inl (Y.2 0, 4, .inl kvi)), (ro 11, .inl (Y.2 0, 4, .inl ksz)), (ro 12, .inl (Y.2 0, 4, .inl krt)), (ro 13, .inl (Y.2 1, 4, .inl ala)), (ro 14, .inl (Y.2 0, 4, .inl fol)), (ro 15, .inl (Y.2 0, 4, .inl cts))] := th_Dsame hD rfl
    obtain rfl : rz9 = nI 1 := by rw [hrz]; rfl
    refine th_zeq (tgt := 29) hx hb dX6_size_17 (by decide) (by omega) (fun c_2 => by exfalso; omega) (fun c_2 => ?_)
    refine lv_aload_n hx hb dX6_size_20 rfl (lv_at hl 0 rfl) ?_
    refine va_get (D := Y.1) (ci := 6) (v := .ref (ro 2)) (C := RX6) (T := TX6) (N := 22) hx hb hts inX6 hown hK hP 0 rfl rfl 2 (by decide) (hts _ tw_3_157) (fun _ h9 => h9) rfl dX6_size_21 ?_
    refine lv_iload_n hx hb dX6_size_24 rfl (lv_at hl 1 rfl) ?_
    refine th_iald hx hb hK hP 2 rfl (j := j1) (by omega) (by omega) dX6_size_25 ?_
    refine lv_goto (tgt := 30) hx hb dX6_size_26 (by decide) ?_
    refine th_iret hx hb hr hlk hQ hS dX6_size_30 (Nat.le_of_ble_eq_true rfl) (Nat.le_of_ble_eq_true rfl) ?_
    show th_ro Y ro (_) _ _
    unfold sp_size
    simp only [zj1]
    rw [th_ifT q1]
    exact th_roT (hs1) (th_rgI hP (hv))
    
  refine th_ti (th_bF q1) ?_
  refine th_zeq (tgt := 13) hx hb dX6_size_6 (by decide) (by omega) (fun c_3 => ?_) (fun c_3 => by exfalso; omega)
  refine lv_iconst (v := nI 1) hx hb dX6_size_13 (by decide) ?_
  refine th_callV hx hb hml hown hts ⟨hK, hN⟩ hl hS (hP 0 _ rfl) rfl (rest := []) (c_X6_goesWell l Y _ ro thr stp efr esz etr S.1 S.2.2.2.1 (hP.sub (ws' := [(ro 0, .inr (6, [.int thr, .ref (ro 1), .ref (ro 2), .int (nI S.1), .ref (ro 3), .ref (ro 4), .ref (ro 5), .int (nI S.2.2.2.1), .ref (ro 6), .ref (ro 7), .int stp, .int efr, .int esz, .int etr, .ref (ro 8), .ref (ro 9), .ref (ro 10), .ref (ro 11), .ref (ro 12), .ref (ro 13), .ref (ro 14), .ref (ro 15)]))]) [0] rfl) 1 (by omega)) ok_X6_goesWell tw_4_1 dX6_size_14 rfl rfl (Nat.le_of_ble_eq_true rfl) ⟨Nat.le_of_ble_eq_true rfl, Nat.le_of_ble_eq_true rfl⟩ ⟨Nat.le_of_ble_eq_true rfl, Nat.le_of_ble_eq_true rfl⟩ (th_subL [0] rfl) (th_ki (fun rz9 H locs hp hsm hS => ?_))
  obtain ⟨hrz, hPc⟩ := hp
  have hP : va_P Y.1 vwCl [(ro 0, .inr (6, [.int (nI 1), .ref (ro 1), .ref (ro 2), .int (nI S.1), .ref (ro 3), .ref (ro 4), .ref (ro 5), .int (nI S.2.2.2.1), .ref (ro 6), .ref (ro 7), .int stp, .int efr, .int esz, .int etr, .ref (ro 8), .ref (ro 9), .ref (ro 10), .ref (ro 11), .ref (ro 12), .ref (ro 13), .ref (ro 14), .ref (ro 15)])), (ro 1, .inl (Y.2 0, 300, .inl val)), (ro 2, .inl (Y.2 0, 3, .inl siz)), (ro 3, .inl (Y.2 0, 8, .inl tre)), (ro 4, .inl (Y.2 0, 8, .inl spa)), (ro 5, .inl (Y.2 0, 12, .inl pro)), (ro 6, .inl (Y.2 0, 12, .inl bes)), (ro 7, .inl (Y.2 1, 12, .inl isr)), (ro 8, .inl (Y.2 0, 64, .inl key)), (ro 9, .inl (Y.2 0, 64, .inl lev)), (ro 10, .inl (Y.2 0, 4, .inl kvi)), (ro 11, .inl (Y.2 0, 4, .inl ksz)), (ro 12, .inl (Y.2 0, 4, .inl krt)), (ro 13, .inl (Y.2 1, 4, .inl ala)), (ro 14, .inl (Y.2 0, 4, .inl fol)), (ro 15, .inl (Y.2 0, 4, .inl cts))] _ := (th_join (wr := [(ro 1, .inl (Y.2 0, 300, .inl val)), (ro 2, .inl (Y.2 0, 3, .inl siz)), (ro 3, .inl (Y.2 0, 8, .inl tre)), (ro 4, .inl (Y.2 0, 8, .inl spa)), (ro 5, .inl (Y.2 0, 12, .inl pro)), (ro 6, .inl (Y.2 0, 12, .inl bes)), (ro 7, .inl (Y.2 1, 12, .inl isr)), (ro 8, .inl (Y.2 0, 64, .inl key)), (ro 9, .inl (Y.2 0, 64, .inl lev)), (ro 10, .inl (Y.2 0, 4, .inl kvi)), (ro 11, .inl (Y.2 0, 4, .inl ksz)), (ro 12, .inl (Y.2 0, 4, .inl krt)), (ro 13, .inl (Y.2 1, 4, .inl ala)), (ro 14, .inl (Y.2 0, 4, .inl fol)), (ro 15, .inl (Y.2 0, 4, .inl cts))]) hP hD [1, 2, 3, 4, 5, 6, 7, 8, 9, 10, 11, 12, 13, 14, 15] [0] rfl rfl (by decide) hsm hPc).sub [15, 0, 1, 2, 3, 4, 5, 6, 7, 8, 9, 10, 11, 12, 13, 14] rfl
  have hD : va_D _ [(ro 0, .inr (6, [.int (nI 1), .ref (ro 1), .ref (ro 2), .int (nI S.1), .ref (ro 3), .ref (ro 4), .ref (ro 5), .int (nI S.2.2.2.1), .ref (ro 6), .ref (ro 7), .int stp, .int efr, .int esz, .int etr, .ref (ro 8), .ref (ro 9), .ref (ro 10), .ref (ro 11), .ref (ro 12), .ref (ro 13), .ref (ro 14), .ref (ro 15)])), (ro 1, .inl (Y.2 0, 300, .inl val)), (ro 2, .inl (Y.2 0, 3, .inl siz)), (ro 3, .inl (Y.2 0, 8, .inl tre)), (ro 4, .inl (Y.2 0, 8, .inl spa)), (ro 5, .inl (Y.2 0, 12, .inl pro)), (ro 6, .inl (Y.2 0, 12, .inl bes)), (ro 7, .inl (Y.2 1, 12, .inl isr)), (ro 8, .inl (Y.2 0, 64, .inl key)), (ro 9, .inl (Y.2 0, 64, .inl lev)), (ro 10, .inl (Y.2 0, 4, .inl kvi)), (ro 11, .inl (Y.2 0, 4, .inl ksz)), (ro 12, .inl (Y.2 0, 4, .inl krt)), (ro 13, .inl (Y.2 1, 4, .inl ala)), (ro 14, .inl (Y.2 0, 4, .inl fol)), (ro 15, .inl (Y.2 0, 4, .inl cts))] := th_Dsame hD rfl
  obtain rfl : rz9 = nI 0 := by rw [hrz]; rfl
  refine th_zeq (tgt := 29) hx hb dX6_size_17 (by decide) (by omega) (fun c_4 => ?_) (fun c_4 => by exfalso; omega)
  refine lv_iconst (v := nI 0) hx hb dX6_size_29 (by decide) ?_
  refine th_iret hx hb hr hlk hQ hS dX6_size_30 (Nat.le_of_ble_eq_true rfl) (Nat.le_of_ble_eq_true rfl) ?_
  show th_ro Y ro (_) _ _
  unfold sp_size
  rw [th_ifF (fun z9 => q1 z9)]
  exact th_roF (by decide) (th_rgI hP hv)
  

set_option maxRecDepth 100000 in
set_option maxHeartbeats 800000 in
theorem c_X6_get (l : Launch) (Y : th_Y) (H0 : Heap) (ro : Nat → Nat) (hJ : th_gJ ro 16) (S : th_S) (thr stp efr esz etr : Int32) (val siz tre spa pro bes isr key lev kvi ksz krt ala fol cts : Nat → Int32) (hP : va_P Y.1 vwCl [(ro 0, .inr (6, [.int thr, .ref (ro 1), .ref (ro 2), .int (nI S.1), .ref (ro 3), .ref (ro 4), .ref (ro 5), .int (nI S.2.2.2.1), .ref (ro 6), .ref (ro 7), .int stp, .int efr, .int esz, .int etr, .ref (ro 8), .ref (ro 9), .ref (ro 10), .ref (ro 11), .ref (ro 12), .ref (ro 13), .ref (ro 14), .ref (ro 15)])), (ro 1, .inl (Y.2 0, 300, .inl val)), (ro 2, .inl (Y.2 0, 3, .inl siz)), (ro 3, .inl (Y.2 0, 8, .inl tre)), (ro 4, .inl (Y.2 0, 8, .inl spa)), (ro 5, .inl (Y.2 0, 12, .inl pro)), (ro 6, .inl (Y.2 0, 12, .inl bes)), (ro 7, .inl (Y.2 1, 12, .inl isr)), (ro 8, .inl (Y.2 0, 64, .inl key)), (ro 9, .inl (Y.2 0, 64, .inl lev)), (ro 10, .inl (Y.2 0, 4, .inl kvi)), (ro 11, .inl (Y.2 0, 4, .inl ksz)), (ro 12, .inl (Y.2 0, 4, .inl krt)), (ro 13, .inl (Y.2 1, 4, .inl ala)), (ro 14, .inl (Y.2 0, 4, .inl fol)), (ro 15, .inl (Y.2 0, 4, .inl cts))] H0) (hv : th_RIv S val siz pro key kvi ksz krt ala fol cts) (x1 : Int32) : th_M l Y yX6_get cX6_get 2 (some .int) (th_rm 6 0 0) [.ref (ro 0), .int x1] H0 (fun z => z ∈ [ro 0, ro 1, ro 2, ro 3, ro 4, ro 5, ro 6, ro 7, ro 8, ro 9, ro 10, ro 11, ro 12, ro 13, ro 14, ro 15]) (th_ro Y ro (sp_get S x1)) := by
  refine th_M.intro (by decide) (Nat.le_of_ble_eq_true rfl) ?_
  intro p e s m args below meth c ls Q hQ C hKN hl hS
  obtain ⟨hx, hb, hr, hml, hown, hts, hlk, hnm⟩ := C
  obtain ⟨hK, hN⟩ := hKN
  have hown : s.vm.findClass RX6 = some m.cls := hown
  have hl : lv_has ls 2 [(0, .ref (ro 0)), (1, .int x1)] := hl
  have hD : va_D (fun z => z ∈ [ro 0, ro 1, ro 2, ro 3, ro 4, ro 5, ro 6, ro 7, ro 8, ro 9, ro 10, ro 11, ro 12, ro 13, ro 14, ro 15]) [(ro 0, .inr (6, [.int thr, .ref (ro 1), .ref (ro 2), .int (nI S.1), .ref (ro 3), .ref (ro 4), .ref (ro 5), .int (nI S.2.2.2.1), .ref (ro 6), .ref (ro 7), .int stp, .int efr, .int esz, .int etr, .ref (ro 8), .ref (ro 9), .ref (ro 10), .ref (ro 11), .ref (ro 12), .ref (ro 13), .ref (ro 14), .ref (ro 15)])), (ro 1, .inl (Y.2 0, 300, .inl val)), (ro 2, .inl (Y.2 0, 3, .inl siz)), (ro 3, .inl (Y.2 0, 8, .inl tre)), (ro 4, .inl (Y.2 0, 8, .inl spa)), (ro 5, .inl (Y.2 0, 12, .inl pro)), (ro 6, .inl (Y.2 0, 12, .inl bes)), (ro 7, .inl (Y.2 1, 12, .inl isr)), (ro 8, .inl (Y.2 0, 64, .inl key)), (ro 9, .inl (Y.2 0, 64, .inl lev)), (ro 10, .inl (Y.2 0, 4, .inl kvi)), (ro 11, .inl (Y.2 0, 4, .inl ksz)), (ro 12, .inl (Y.2 0, 4, .inl krt)), (ro 13, .inl (Y.2 1, 4, .inl ala)), (ro 14, .inl (Y.2 0, 4, .inl fol)), (ro 15, .inl (Y.2 0, 4, .inl cts))] := th_mem (th_gD hJ [0, 1, 2, 3, 4, 5, 6, 7, 8, 9, 10, 11, 12, 13, 14, 15] (fun k9 hk9 => by simp only [List.mem_cons, List.not_mem_nil, or_false] at hk9; omega) th_nd16 rfl)
  have hv1 := hv.1
  have hv12 := hv.2.2.1
  refine lv_aload_n hx hb dX6_get_0 rfl (lv_at hl 0 rfl) ?_
  refine lv_iload_n hx hb dX6_get_1 rfl (lv_at hl 1 rfl) ?_
  refine th_callS hx hb hml hown hts ⟨hK, hN⟩ hl hS (rest := [.ref (ro 0)]) (c_X6_isKey l Y _ x1) ok_X6_isKey tw_4_85 dX6_get_2 rfl rfl (Nat.le_of_ble_eq_true rfl) ⟨Nat.le_of_ble_eq_true rfl, Nat.le_of_ble_eq_true rfl⟩ ⟨Nat.le_of_ble_eq_true rfl, Nat.le_of_ble_eq_true rfl⟩ (fun _ h => h.elim) (th_kpi (fun locs hS => ?_))
  by_cases q1 : th_ir x1 0 64
  · refine th_ti (th_bT q1) ?_
    have uq9 := q1
    obtain ⟨j1, j1a, j1b, ux9⟩ := uq9
    subst ux9
    have zj1 : th_ix (nI j1) = j1 := th_ixN (by omega)
    refine th_zeq (tgt := 12) hx hb dX6_get_5 (by decide) (by omega) (fun c_1 => by exfalso; omega) (fun c_1 => ?_)
    refine lv_iconst (v := nI 0) hx hb dX6_get_8 (by decide) ?_
    refine lv_goto (tgt := 13) hx hb dX6_get_9 (by decide) ?_
    refine th_callV hx hb hml hown hts ⟨hK, hN⟩ hl hS (hP 0 _ rfl) rfl (rest := []) (c_X6_goesWell l Y _ ro thr stp efr esz etr S.1 S.2.2.2.1 (hP.sub (ws' := [(ro 0, .inr (6, [.int thr, .ref (ro 1), .ref (ro 2), .int (nI S.1), .ref (ro 3), .ref (ro 4), .ref (ro 5), .int (nI S.2.2.2.1), .ref (ro 6), .ref (ro 7), .int stp, .int efr, .int esz, .int etr, .ref (ro 8), .ref (ro 9), .ref (ro 10), .ref (ro 11), .ref (ro 12), .ref (ro 13), .ref (ro 14), .ref (ro 15)]))]) [0] rfl) 0 (by omega)) ok_X6_goesWell tw_4_1 dX6_get_13 rfl rfl (Nat.le_of_ble_eq_true rfl) ⟨Nat.le_of_ble_eq_true rfl, Nat.le_of_ble_eq_true rfl⟩ ⟨Nat.le_of_ble_eq_true rfl, Nat.le_of_ble_eq_true rfl⟩ (th_subL [0] rfl) (th_ki (fun rz9 H locs hp hsm hS => ?_))
    obtain ⟨hrz, hPc⟩ := hp
    have hP : va_P Y.1 vwCl [(ro 0, .inr (6, [.int (nI 0), .ref (ro 1), .ref (ro 2), .int (nI S.1), .ref (ro 3), .ref (ro 4), .ref (ro 5), .int (nI S.2.2.2.1), .ref (ro 6), .ref (ro 7), .int stp, .int efr, .int esz, .int etr, .ref (ro 8), .ref (ro 9), .ref (ro 10), .ref (ro 11), .ref (ro 12), .ref (ro 13), .ref (ro 14), .ref (ro 15)])), (ro 1, .inl (Y.2 0, 300, .inl val)), (ro 2, .inl (Y.2 0, 3, .inl siz)), (ro 3, .inl (Y.2 0, 8, .inl tre)), (ro 4, .inl (Y.2 0, 8, .inl spa)), (ro 5, .inl (Y.2 0, 12, .inl pro)), (ro 6, .inl (Y.2 0, 12, .inl bes)), (ro 7, .inl (Y.2 1, 12, .inl isr)), (ro 8, .inl (Y.2 0, 64, .inl key)), (ro 9, .inl (Y.2 0, 64, .inl lev)), (ro 10, .inl (Y.2 0, 4, .inl kvi)), (ro 11, .inl (Y.2 0, 4, .inl ksz)), (ro 12, .inl (Y.2 0, 4, .inl krt)), (ro 13, .inl (Y.2 1, 4, .inl ala)), (ro 14, .inl (Y.2 0, 4, .inl fol)), (ro 15, .inl (Y.2 0, 4, .inl cts))] _ := (th_join (wr := [(ro 1, .inl (Y.2 0, 300, .inl val)), (ro 2, .inl (Y.2 0, 3, .inl siz)), (ro 3, .inl (Y.2 0, 8, .inl tre)), (ro 4, .inl (Y.2 0, 8, .inl spa)), (ro 5, .inl (Y.2 0, 12, .inl pro)), (ro 6, .inl (Y.2 0, 12, .inl bes)), (ro 7, .inl (Y.2 1, 12, .inl isr)), (ro 8, .inl (Y.2 0, 64, .inl key)), (ro 9, .inl (Y.2 0, 64, .inl lev)), (ro 10, .inl (Y.2 0, 4, .inl kvi)), (ro 11, .inl (Y.2 0, 4, .inl ksz)), (ro 12, .inl (Y.2 0, 4, .inl krt)), (ro 13, .inl (Y.2 1, 4, .inl ala)), (ro 14, .inl (Y.2 0, 4, .inl fol)), (ro 15, .inl (Y.2 0, 4, .inl cts))]) hP hD [1, 2, 3, 4, 5, 6, 7, 8, 9, 10, 11, 12, 13, 14, 15] [0] rfl rfl (by decide) hsm hPc).sub [15, 0, 1, 2, 3, 4, 5, 6, 7, 8, 9, 10, 11, 12, 13, 14] rfl
    have hD : va_D _ [(ro 0, .inr (6, [.int (nI 0), .ref (ro 1), .ref (ro 2), .int (nI S.1), .ref (ro 3), .ref (ro 4), .ref (ro 5), .int (nI S.2.2.2.1), .ref (ro 6), .ref (ro 7), .int stp, .int efr, .int esz, .int etr, .ref (ro 8), .ref (ro 9), .ref (ro 10), .ref (ro 11), .ref (ro 12), .ref (ro 13), .ref (ro 14), .ref (ro 15)])), (ro 1, .inl (Y.2 0, 300, .inl val)), (ro 2, .inl (Y.2 0, 3, .inl siz)), (ro 3, .inl (Y.2 0, 8, .inl tre)), (ro 4, .inl (Y.2 0, 8, .inl spa)), (ro 5, .inl (Y.2 0, 12, .inl pro)), (ro 6, .inl (Y.2 0, 12, .inl bes)), (ro 7, .inl (Y.2 1, 12, .inl isr)), (ro 8, .inl (Y.2 0, 64, .inl key)), (ro 9, .inl (Y.2 0, 64, .inl lev)), (ro 10, .inl (Y.2 0, 4, .inl kvi)), (ro 11, .inl (Y.2 0, 4, .inl ksz)), (ro 12, .inl (Y.2 0, 4, .inl krt)), (ro 13, .inl (Y.2 1, 4, .inl ala)), (ro 14, .inl (Y.2 0, 4, .inl fol)), (ro 15, .inl (Y.2 0, 4, .inl cts))] := th_Dsame hD rfl
    obtain rfl : rz9 = nI 1 := by rw [hrz]; rfl
    refine th_zeq (tgt := 28) hx hb dX6_get_16 (by decide) (by omega) (fun c_2 => by exfalso; omega) (fun c_2 => ?_)
    refine lv_aload_n hx hb dX6_get_19 rfl (lv_at hl 0 rfl) ?_
    refine va_get (D := Y.1) (ci := 6) (v := .ref (ro 8)) (C := RX6) (T := TX6) (N := 22) hx hb hts inX6 hown hK hP 0 rfl rfl 14 (by decide) (hts _ tw_3_169) (fun _ h9 => h9) rfl dX6_get_20 ?_
    refine lv_iload_n hx hb dX6_get_23 rfl (lv_at hl 1 rfl) ?_
    refine th_iald hx hb hK hP 8 rfl (j := j1) (by omega) (by omega) dX6_get_24 ?_
    refine lv_goto (tgt := 29) hx hb dX6_get_25 (by decide) ?_
    refine th_iret hx hb hr hlk hQ hS dX6_get_29 (Nat.le_of_ble_eq_true rfl) (Nat.le_of_ble_eq_true rfl) ?_
    show th_ro Y ro (_) _ _
    unfold sp_get
    simp only [zj1]
    rw [th_ifT q1]
    exact th_roT (hv.2.2.2.2.1 j1 j1b) (th_rgI hP (hv))
    
  refine th_ti (th_bF q1) ?_
  refine th_zeq (tgt := 12) hx hb dX6_get_5 (by decide) (by omega) (fun c_3 => ?_) (fun c_3 => by exfalso; omega)
  refine lv_iconst (v := nI 1) hx hb dX6_get_12 (by decide) ?_
  refine th_callV hx hb hml hown hts ⟨hK, hN⟩ hl hS (hP 0 _ rfl) rfl (rest := []) (c_X6_goesWell l Y _ ro thr stp efr esz etr S.1 S.2.2.2.1 (hP.sub (ws' := [(ro 0, .inr (6, [.int thr, .ref (ro 1), .ref (ro 2), .int (nI S.1), .ref (ro 3), .ref (ro 4), .ref (ro 5), .int (nI S.2.2.2.1), .ref (ro 6), .ref (ro 7), .int stp, .int efr, .int esz, .int etr, .ref (ro 8), .ref (ro 9), .ref (ro 10), .ref (ro 11), .ref (ro 12), .ref (ro 13), .ref (ro 14), .ref (ro 15)]))]) [0] rfl) 1 (by omega)) ok_X6_goesWell tw_4_1 dX6_get_13 rfl rfl (Nat.le_of_ble_eq_true rfl) ⟨Nat.le_of_ble_eq_true rfl, Nat.le_of_ble_eq_true rfl⟩ ⟨Nat.le_of_ble_eq_true rfl, Nat.le_of_ble_eq_true rfl⟩ (th_subL [0] rfl) (th_ki (fun rz9 H locs hp hsm hS => ?_))
  obtain ⟨hrz, hPc⟩ := hp
  have hP : va_P Y.1 vwCl [(ro 0, .inr (6, [.int (nI 1), .ref (ro 1), .ref (ro 2), .int (nI S.1), .ref (ro 3), .ref (ro 4), .ref (ro 5), .int (nI S.2.2.2.1), .ref (ro 6), .ref (ro 7), .int stp, .int efr, .int esz, .int etr, .ref (ro 8), .ref (ro 9), .ref (ro 10), .ref (ro 11), .ref (ro 12), .ref (ro 13), .ref (ro 14), .ref (ro 15)])), (ro 1, .inl (Y.2 0, 300, .inl val)), (ro 2, .inl (Y.2 0, 3, .inl siz)), (ro 3, .inl (Y.2 0, 8, .inl tre)), (ro 4, .inl (Y.2 0, 8, .inl spa)), (ro 5, .inl (Y.2 0, 12, .inl pro)), (ro 6, .inl (Y.2 0, 12, .inl bes)), (ro 7, .inl (Y.2 1, 12, .inl isr)), (ro 8, .inl (Y.2 0, 64, .inl key)), (ro 9, .inl (Y.2 0, 64, .inl lev)), (ro 10, .inl (Y.2 0, 4, .inl kvi)), (ro 11, .inl (Y.2 0, 4, .inl ksz)), (ro 12, .inl (Y.2 0, 4, .inl krt)), (ro 13, .inl (Y.2 1, 4, .inl ala)), (ro 14, .inl (Y.2 0, 4, .inl fol)), (ro 15, .inl (Y.2 0, 4, .inl cts))] _ := (th_join (wr := [(ro 1, .inl (Y.2 0, 300, .inl val)), (ro 2, .inl (Y.2 0, 3, .inl siz)), (ro 3, .inl (Y.2 0, 8, .inl tre)), (ro 4, .inl (Y.2 0, 8, .inl spa)), (ro 5, .inl (Y.2 0, 12, .inl pro)), (ro 6, .inl (Y.2 0, 12, .inl bes)), (ro 7, .inl (Y.2 1, 12, .inl isr)), (ro 8, .inl (Y.2 0, 64, .inl key)), (ro 9, .inl (Y.2 0, 64, .inl lev)), (ro 10, .inl (Y.2 0, 4, .inl kvi)), (ro 11, .inl (Y.2 0, 4, .inl ksz)), (ro 12, .inl (Y.2 0, 4, .inl krt)), (ro 13, .inl (Y.2 1, 4, .inl ala)), (ro 14, .inl (Y.2 0, 4, .inl fol)), (ro 15, .inl (Y.2 0, 4, .inl cts))]) hP hD [1, 2, 3, 4, 5, 6, 7, 8, 9, 10, 11, 12, 13, 14, 15] [0] rfl rfl (by decide) hsm hPc).sub [15, 0, 1, 2, 3, 4, 5, 6, 7, 8, 9, 10, 11, 12, 13, 14] rfl
  have hD : va_D _ [(ro 0, .inr (6, [.int (nI 1), .ref (ro 1), .ref (ro 2), .int (nI S.1), .ref (ro 3), .ref (ro 4), .ref (ro 5), .int (nI S.2.2.2.1), .ref (ro 6), .ref (ro 7), .int stp, .int efr, .int esz, .int etr, .ref (ro 8), .ref (ro 9), .ref (ro 10), .ref (ro 11), .ref (ro 12), .ref (ro 13), .ref (ro 14), .ref (ro 15)])), (ro 1, .inl (Y.2 0, 300, .inl val)), (ro 2, .inl (Y.2 0, 3, .inl siz)), (ro 3, .inl (Y.2 0, 8, .inl tre)), (ro 4, .inl (Y.2 0, 8, .inl spa)), (ro 5, .inl (Y.2 0, 12, .inl pro)), (ro 6, .inl (Y.2 0, 12, .inl bes)), (ro 7, .inl (Y.2 1, 12, .inl isr)), (ro 8, .inl (Y.2 0, 64, .inl key)), (ro 9, .inl (Y.2 0, 64, .inl lev)), (ro 10, .inl (Y.2 0, 4, .inl kvi)), (ro 11, .inl (Y.2 0, 4, .inl ksz)), (ro 12, .inl (Y.2 0, 4, .inl krt)), (ro 13, .inl (Y.2 1, 4, .inl ala)), (ro 14, .inl (Y.2 0, 4, .inl fol)), (ro 15, .inl (Y.2 0, 4, .inl cts))] := th_Dsame hD rfl
  obtain rfl : rz9 = nI 0 := by rw [hrz]; rfl
  refine th_zeq (tgt := 28) hx hb dX6_get_16 (by decide) (by omega) (fun c_4 => ?_) (fun c_4 => by exfalso; omega)
  refine lv_iconst (v := nI 0) hx hb dX6_get_28 (by decide) ?_
  refine th_iret hx hb hr hlk hQ hS dX6_get_29 (Nat.le_of_ble_eq_true rfl) (Nat.le_of_ble_eq_true rfl) ?_
  show th_ro Y ro (_) _ _
  unfold sp_get
  rw [th_ifF (fun z9 => q1 z9)]
  exact th_roF (by decide) (th_rgI hP hv)
  

set_option maxRecDepth 100000 in
set_option maxHeartbeats 800000 in
theorem c_X6_keptSize (l : Launch) (Y : th_Y) (H0 : Heap) (ro : Nat → Nat) (hJ : th_gJ ro 16) (S : th_S) (thr stp efr esz etr : Int32) (val siz tre spa pro bes isr key lev kvi ksz krt ala fol cts : Nat → Int32) (hP : va_P Y.1 vwCl [(ro 0, .inr (6, [.int thr, .ref (ro 1), .ref (ro 2), .int (nI S.1), .ref (ro 3), .ref (ro 4), .ref (ro 5), .int (nI S.2.2.2.1), .ref (ro 6), .ref (ro 7), .int stp, .int efr, .int esz, .int etr, .ref (ro 8), .ref (ro 9), .ref (ro 10), .ref (ro 11), .ref (ro 12), .ref (ro 13), .ref (ro 14), .ref (ro 15)])), (ro 1, .inl (Y.2 0, 300, .inl val)), (ro 2, .inl (Y.2 0, 3, .inl siz)), (ro 3, .inl (Y.2 0, 8, .inl tre)), (ro 4, .inl (Y.2 0, 8, .inl spa)), (ro 5, .inl (Y.2 0, 12, .inl pro)), (ro 6, .inl (Y.2 0, 12, .inl bes)), (ro 7, .inl (Y.2 1, 12, .inl isr)), (ro 8, .inl (Y.2 0, 64, .inl key)), (ro 9, .inl (Y.2 0, 64, .inl lev)), (ro 10, .inl (Y.2 0, 4, .inl kvi)), (ro 11, .inl (Y.2 0, 4, .inl ksz)), (ro 12, .inl (Y.2 0, 4, .inl krt)), (ro 13, .inl (Y.2 1, 4, .inl ala)), (ro 14, .inl (Y.2 0, 4, .inl fol)), (ro 15, .inl (Y.2 0, 4, .inl cts))] H0) (hv : th_RIv S val siz pro key kvi ksz krt ala fol cts) (x1 : Int32) : th_M l Y yX6_keptSize cX6_keptSize 2 (some .int) (th_rm 6 0 0) [.ref (ro 0), .int x1] H0 (fun z => z ∈ [ro 0, ro 1, ro 2, ro 3, ro 4, ro 5, ro 6, ro 7, ro 8, ro 9, ro 10, ro 11, ro 12, ro 13, ro 14, ro 15]) (th_ro Y ro (sp_keptSize S x1)) := by
  refine th_M.intro (by decide) (Nat.le_of_ble_eq_true rfl) ?_
  intro p e s m args below meth c ls Q hQ C hKN hl hS
  obtain ⟨hx, hb, hr, hml, hown, hts, hlk, hnm⟩ := C
  obtain ⟨hK, hN⟩ := hKN
  have hown : s.vm.findClass RX6 = some m.cls := hown
  have hl : lv_has ls 2 [(0, .ref (ro 0)), (1, .int x1)] := hl
  have hD : va_D (fun z => z ∈ [ro 0, ro 1, ro 2, ro 3, ro 4, ro 5, ro 6, ro 7, ro 8, ro 9, ro 10, ro 11, ro 12, ro 13, ro 14, ro 15]) [(ro 0, .inr (6, [.int thr, .ref (ro 1), .ref (ro 2), .int (nI S.1), .ref (ro 3), .ref (ro 4), .ref (ro 5), .int (nI S.2.2.2.1), .ref (ro 6), .ref (ro 7), .int stp, .int efr, .int esz, .int etr, .ref (ro 8), .ref (ro 9), .ref (ro 10), .ref (ro 11), .ref (ro 12), .ref (ro 13), .ref (ro 14), .ref (ro 15)])), (ro 1, .inl (Y.2 0, 300, .inl val)), (ro 2, .inl (Y.2 0, 3, .inl siz)), (ro 3, .inl (Y.2 0, 8, .inl tre)), (ro 4, .inl (Y.2 0, 8, .inl spa)), (ro 5, .inl (Y.2 0, 12, .inl pro)), (ro 6, .inl (Y.2 0, 12, .inl bes)), (ro 7, .inl (Y.2 1, 12, .inl isr)), (ro 8, .inl (Y.2 0, 64, .inl key)), (ro 9, .inl (Y.2 0, 64, .inl lev)), (ro 10, .inl (Y.2 0, 4, .inl kvi)), (ro 11, .inl (Y.2 0, 4, .inl ksz)), (ro 12, .inl (Y.2 0, 4, .inl krt)), (ro 13, .inl (Y.2 1, 4, .inl ala)), (ro 14, .inl (Y.2 0, 4, .inl fol)), (ro 15, .inl (Y.2 0, 4, .inl cts))] := th_mem (th_gD hJ [0, 1, 2, 3, 4, 5, 6, 7, 8, 9, 10, 11, 12, 13, 14, 15] (fun k9 hk9 => by simp only [List.mem_cons, List.not_mem_nil, or_false] at hk9; omega) th_nd16 rfl)
  have hv1 := hv.1
  have hv12 := hv.2.2.1
  refine lv_aload_n hx hb dX6_keptSize_0 rfl (lv_at hl 0 rfl) ?_
  refine lv_iload_n hx hb dX6_keptSize_1 rfl (lv_at hl 1 rfl) ?_
  refine th_callS hx hb hml hown hts ⟨hK, hN⟩ hl hS (rest := [.ref (ro 0)]) (c_X6_isWatcher l Y _ x1) ok_X6_isWatcher tw_4_147 dX6_keptSize_2 rfl rfl (Nat.le_of_ble_eq_true rfl) ⟨Nat.le_of_ble_eq_true rfl, Nat.le_of_ble_eq_true rfl⟩ ⟨Nat.le_of_ble_eq_true rfl, Nat.le_of_ble_eq_true rfl⟩ (fun _ h => h.elim) (th_kpi (fun locs hS => ?_))
  by_cases q1 : th_ir x1 0 4
  · refine th_ti (th_bT q1) ?_
    have uq9 := q1
    obtain ⟨j1, j1a, j1b, ux9⟩ := uq9
    subst ux9
    have zj1 : th_ix (nI j1) = j1 := th_ixN (by omega)
    refine th_zeq (tgt := 12) hx hb dX6_keptSize_5 (by decide) (by omega) (fun c_1 => by exfalso; omega) (fun c_1 => ?_)
    refine lv_iconst (v := nI 0) hx hb dX6_keptSize_8 (by decide) ?_
    refine lv_goto (tgt := 13) hx hb dX6_keptSize_9 (by decide) ?_
    refine th_callV hx hb hml hown hts ⟨hK, hN⟩ hl hS (hP 0 _ rfl) rfl (rest := []) (c_X6_goesWell l Y _ ro thr stp efr esz etr S.1 S.2.2.2.1 (hP.sub (ws' := [(ro 0, .inr (6, [.int thr, .ref (ro 1), .ref (ro 2), .int (nI S.1), .ref (ro 3), .ref (ro 4), .ref (ro 5), .int (nI S.2.2.2.1), .ref (ro 6), .ref (ro 7), .int stp, .int efr, .int esz, .int etr, .ref (ro 8), .ref (ro 9), .ref (ro 10), .ref (ro 11), .ref (ro 12), .ref (ro 13), .ref (ro 14), .ref (ro 15)]))]) [0] rfl) 0 (by omega)) ok_X6_goesWell tw_4_1 dX6_keptSize_13 rfl rfl (Nat.le_of_ble_eq_true rfl) ⟨Nat.le_of_ble_eq_true rfl, Nat.le_of_ble_eq_true rfl⟩ ⟨Nat.le_of_ble_eq_true rfl, Nat.le_of_ble_eq_true rfl⟩ (th_subL [0] rfl) (th_ki (fun rz9 H locs hp hsm hS => ?_))
    obtain ⟨hrz, hPc⟩ := hp
    have hP : va_P Y.1 vwCl [(ro 0, .inr (6, [.int (nI 0), .ref (ro 1), .ref (ro 2), .int (nI S.1), .ref (ro 3), .ref (ro 4), .ref (ro 5), .int (nI S.2.2.2.1), .ref (ro 6), .ref (ro 7), .int stp, .int efr, .int esz, .int etr, .ref (ro 8), .ref (ro 9), .ref (ro 10), .ref (ro 11), .ref (ro 12), .ref (ro 13), .ref (ro 14), .ref (ro 15)])), (ro 1, .inl (Y.2 0, 300, .inl val)), (ro 2, .inl (Y.2 0, 3, .inl siz)), (ro 3, .inl (Y.2 0, 8, .inl tre)), (ro 4, .inl (Y.2 0, 8, .inl spa)), (ro 5, .inl (Y.2 0, 12, .inl pro)), (ro 6, .inl (Y.2 0, 12, .inl bes)), (ro 7, .inl (Y.2 1, 12, .inl isr)), (ro 8, .inl (Y.2 0, 64, .inl key)), (ro 9, .inl (Y.2 0, 64, .inl lev)), (ro 10, .inl (Y.2 0, 4, .inl kvi)), (ro 11, .inl (Y.2 0, 4, .inl ksz)), (ro 12, .inl (Y.2 0, 4, .inl krt)), (ro 13, .inl (Y.2 1, 4, .inl ala)), (ro 14, .inl (Y.2 0, 4, .inl fol)), (ro 15, .inl (Y.2 0, 4, .inl cts))] _ := (th_join (wr := [(ro 1, .inl (Y.2 0, 300, .inl val)), (ro 2, .inl (Y.2 0, 3, .inl siz)), (ro 3, .inl (Y.2 0, 8, .inl tre)), (ro 4, .inl (Y.2 0, 8, .inl spa)), (ro 5, .inl (Y.2 0, 12, .inl pro)), (ro 6, .inl (Y.2 0, 12, .inl bes)), (ro 7, .inl (Y.2 1, 12, .inl isr)), (ro 8, .inl (Y.2 0, 64, .inl key)), (ro 9, .inl (Y.2 0, 64, .inl lev)), (ro 10, .inl (Y.2 0, 4, .inl kvi)), (ro 11, .inl (Y.2 0, 4, .inl ksz)), (ro 12, .inl (Y.2 0, 4, .inl krt)), (ro 13, .inl (Y.2 1, 4, .inl ala)), (ro 14, .inl (Y.2 0, 4, .inl fol)), (ro 15, .inl (Y.2 0, 4, .inl cts))]) hP hD [1, 2, 3, 4, 5, 6, 7, 8, 9, 10, 11, 12, 13, 14, 15] [0] rfl rfl (by decide) hsm hPc).sub [15, 0, 1, 2, 3, 4, 5, 6, 7, 8, 9, 10, 11, 12, 13, 14] rfl
    have hD : va_D _ [(ro 0, .inr (6, [.int (nI 0), .ref (ro 1), .ref (ro 2), .int (nI S.1), .ref (ro 3), .ref (ro 4), .ref (ro 5), .int (nI S.2.2.2.1), .ref (ro 6), .ref (ro 7), .int stp, .int efr, .int esz, .int etr, .ref (ro 8), .ref (ro 9), .ref (ro 10), .ref (ro 11), .ref (ro 12), .ref (ro 13), .ref (ro 14), .ref (ro 15)])), (ro 1, .inl (Y.2 0, 300, .inl val)), (ro 2, .inl (Y.2 0, 3, .inl siz)), (ro 3, .inl (Y.2 0, 8, .inl tre)), (ro 4, .inl (Y.2 0, 8, .inl spa)), (ro 5, .inl (Y.2 0, 12, .inl pro)), (ro 6, .inl (Y.2 0, 12, .inl bes)), (ro 7, .inl (Y.2 1, 12, .inl isr)), (ro 8, .inl (Y.2 0, 64, .inl key)), (ro 9, .inl (Y.2 0, 64, .inl lev)), (ro 10, .inl (Y.2 0, 4, .inl kvi)), (ro 11, .inl (Y.2 0, 4, .inl ksz)), (ro 12, .inl (Y.2 0, 4, .inl krt)), (ro 13, .inl (Y.2 1, 4, .inl ala)), (ro 14, .inl (Y.2 0, 4, .inl fol)), (ro 15, .inl (Y.2 0, 4, .inl cts))] := th_Dsame hD rfl
    obtain rfl : rz9 = nI 1 := by rw [hrz]; rfl
    refine th_zeq (tgt := 28) hx hb dX6_keptSize_16 (by decide) (by omega) (fun c_2 => by exfalso; omega) (fun c_2 => ?_)
    refine lv_aload_n hx hb dX6_keptSize_19 rfl (lv_at hl 0 rfl) ?_
    refine va_get (D := Y.1) (ci := 6) (v := .ref (ro 11)) (C := RX6) (T := TX6) (N := 22) hx hb hts inX6 hown hK hP 0 rfl rfl 17 (by decide) (hts _ tw_3_172) (fun _ h9 => h9) rfl dX6_keptSize_20 ?_
    refine lv_iload_n hx hb dX6_keptSize_23 rfl (lv_at hl 1 rfl) ?_
    refine th_iald hx hb hK hP 11 rfl (j := j1) (by omega) (by omega) dX6_keptSize_24 ?_
    refine lv_goto (tgt := 29) hx hb dX6_keptSize_25 (by decide) ?_
    refine th_iret hx hb hr hlk hQ hS dX6_keptSize_29 (Nat.le_of_ble_eq_true rfl) (Nat.le_of_ble_eq_true rfl) ?_
    show th_ro Y ro (_) _ _
    unfold sp_keptSize
    simp only [zj1]
    rw [th_ifT q1]
    exact th_roT ((hv.2.2.2.2.2 j1 j1b).1.1) (th_rgI hP (hv))
    
  refine th_ti (th_bF q1) ?_
  refine th_zeq (tgt := 12) hx hb dX6_keptSize_5 (by decide) (by omega) (fun c_3 => ?_) (fun c_3 => by exfalso; omega)
  refine lv_iconst (v := nI 1) hx hb dX6_keptSize_12 (by decide) ?_
  refine th_callV hx hb hml hown hts ⟨hK, hN⟩ hl hS (hP 0 _ rfl) rfl (rest := []) (c_X6_goesWell l Y _ ro thr stp efr esz etr S.1 S.2.2.2.1 (hP.sub (ws' := [(ro 0, .inr (6, [.int thr, .ref (ro 1), .ref (ro 2), .int (nI S.1), .ref (ro 3), .ref (ro 4), .ref (ro 5), .int (nI S.2.2.2.1), .ref (ro 6), .ref (ro 7), .int stp, .int efr, .int esz, .int etr, .ref (ro 8), .ref (ro 9), .ref (ro 10), .ref (ro 11), .ref (ro 12), .ref (ro 13), .ref (ro 14), .ref (ro 15)]))]) [0] rfl) 1 (by omega)) ok_X6_goesWell tw_4_1 dX6_keptSize_13 rfl rfl (Nat.le_of_ble_eq_true rfl) ⟨Nat.le_of_ble_eq_true rfl, Nat.le_of_ble_eq_true rfl⟩ ⟨Nat.le_of_ble_eq_true rfl, Nat.le_of_ble_eq_true rfl⟩ (th_subL [0] rfl) (th_ki (fun rz9 H locs hp hsm hS => ?_))
  obtain ⟨hrz, hPc⟩ := hp
  have hP : va_P Y.1 vwCl [(ro 0, .inr (6, [.int (nI 1), .ref (ro 1), .ref (ro 2), .int (nI S.1), .ref (ro 3), .ref (ro 4), .ref (ro 5), .int (nI S.2.2.2.1), .ref (ro 6), .ref (ro 7), .int stp, .int efr, .int esz, .int etr, .ref (ro 8), .ref (ro 9), .ref (ro 10), .ref (ro 11), .ref (ro 12), .ref (ro 13), .ref (ro 14), .ref (ro 15)])), (ro 1, .inl (Y.2 0, 300, .inl val)), (ro 2, .inl (Y.2 0, 3, .inl siz)), (ro 3, .inl (Y.2 0, 8, .inl tre)), (ro 4, .inl (Y.2 0, 8, .inl spa)), (ro 5, .inl (Y.2 0, 12, .inl pro)), (ro 6, .inl (Y.2 0, 12, .inl bes)), (ro 7, .inl (Y.2 1, 12, .inl isr)), (ro 8, .inl (Y.2 0, 64, .inl key)), (ro 9, .inl (Y.2 0, 64, .inl lev)), (ro 10, .inl (Y.2 0, 4, .inl kvi)), (ro 11, .inl (Y.2 0, 4, .inl ksz)), (ro 12, .inl (Y.2 0, 4, .inl krt)), (ro 13, .inl (Y.2 1, 4, .inl ala)), (ro 14, .inl (Y.2 0, 4, .inl fol)), (ro 15, .inl (Y.2 0, 4, .inl cts))] _ := (th_join (wr := [(ro 1, .inl (Y.2 0, 300, .inl val)), (ro 2, .inl (Y.2 0, 3, .inl siz)), (ro 3, .inl (Y.2 0, 8, .inl tre)), (ro 4, .inl (Y.2 0, 8, .inl spa)), (ro 5, .inl (Y.2 0, 12, .inl pro)), (ro 6, .inl (Y.2 0, 12, .inl bes)), (ro 7, .inl (Y.2 1, 12, .inl isr)), (ro 8, .inl (Y.2 0, 64, .inl key)), (ro 9, .inl (Y.2 0, 64, .inl lev)), (ro 10, .inl (Y.2 0, 4, .inl kvi)), (ro 11, .inl (Y.2 0, 4, .inl ksz)), (ro 12, .inl (Y.2 0, 4, .inl krt)), (ro 13, .inl (Y.2 1, 4, .inl ala)), (ro 14, .inl (Y.2 0, 4, .inl fol)), (ro 15, .inl (Y.2 0, 4, .inl cts))]) hP hD [1, 2, 3, 4, 5, 6, 7, 8, 9, 10, 11, 12, 13, 14, 15] [0] rfl rfl (by decide) hsm hPc).sub [15, 0, 1, 2, 3, 4, 5, 6, 7, 8, 9, 10, 11, 12, 13, 14] rfl
  have hD : va_D _ [(ro 0, .inr (6, [.int (nI 1), .ref (ro 1), .ref (ro 2), .int (nI S.1), .ref (ro 3), .ref (ro 4), .ref (ro 5), .int (nI S.2.2.2.1), .ref (ro 6), .ref (ro 7), .int stp, .int efr, .int esz, .int etr, .ref (ro 8), .ref (ro 9), .ref (ro 10), .ref (ro 11), .ref (ro 12), .ref (ro 13), .ref (ro 14), .ref (ro 15)])), (ro 1, .inl (Y.2 0, 300, .inl val)), (ro 2, .inl (Y.2 0, 3, .inl siz)), (ro 3, .inl (Y.2 0, 8, .inl tre)), (ro 4, .inl (Y.2 0, 8, .inl spa)), (ro 5, .inl (Y.2 0, 12, .inl pro)), (ro 6, .inl (Y.2 0, 12, .inl bes)), (ro 7, .inl (Y.2 1, 12, .inl isr)), (ro 8, .inl (Y.2 0, 64, .inl key)), (ro 9, .inl (Y.2 0, 64, .inl lev)), (ro 10, .inl (Y.2 0, 4, .inl kvi)), (ro 11, .inl (Y.2 0, 4, .inl ksz)), (ro 12, .inl (Y.2 0, 4, .inl krt)), (ro 13, .inl (Y.2 1, 4, .inl ala)), (ro 14, .inl (Y.2 0, 4, .inl fol)), (ro 15, .inl (Y.2 0, 4, .inl cts))] := th_Dsame hD rfl
  obtain rfl : rz9 = nI 0 := by rw [hrz]; rfl
  refine th_zeq (tgt := 28) hx hb dX6_keptSize_16 (by decide) (by omega) (fun c_4 => ?_) (fun c_4 => by exfalso; omega)
  refine lv_iconst (v := nI 0) hx hb dX6_keptSize_28 (by decide) ?_
  refine th_iret hx hb hr hlk hQ hS dX6_keptSize_29 (Nat.le_of_ble_eq_true rfl) (Nat.le_of_ble_eq_true rfl) ?_
  show th_ro Y ro (_) _ _
  unfold sp_keptSize
  rw [th_ifF (fun z9 => q1 z9)]
  exact th_roF (by decide) (th_rgI hP hv)
  

set_option maxRecDepth 100000 in
set_option maxHeartbeats 800000 in
theorem c_X6_keptRoot (l : Launch) (Y : th_Y) (H0 : Heap) (ro : Nat → Nat) (hJ : th_gJ ro 16) (S : th_S) (thr stp efr esz etr : Int32) (val siz tre spa pro bes isr key lev kvi ksz krt ala fol cts : Nat → Int32) (hP : va_P Y.1 vwCl [(ro 0, .inr (6, [.int thr, .ref (ro 1), .ref (ro 2), .int (nI S.1), .ref (ro 3), .ref (ro 4), .ref (ro 5), .int (nI S.2.2.2.1), .ref (ro 6), .ref (ro 7), .int stp, .int efr, .int esz, .int etr, .ref (ro 8), .ref (ro 9), .ref (ro 10), .ref (ro 11), .ref (ro 12), .ref (ro 13), .ref (ro 14), .ref (ro 15)])), (ro 1, .inl (Y.2 0, 300, .inl val)), (ro 2, .inl (Y.2 0, 3, .inl siz)), (ro 3, .inl (Y.2 0, 8, .inl tre)), (ro 4, .inl (Y.2 0, 8, .inl spa)), (ro 5, .inl (Y.2 0, 12, .inl pro)), (ro 6, .inl (Y.2 0, 12, .inl bes)), (ro 7, .inl (Y.2 1, 12, .inl isr)), (ro 8, .inl (Y.2 0, 64, .inl key)), (ro 9, .inl (Y.2 0, 64, .inl lev)), (ro 10, .inl (Y.2 0, 4, .inl kvi)), (ro 11, .inl (Y.2 0, 4, .inl ksz)), (ro 12, .inl (Y.2 0, 4, .inl krt)), (ro 13, .inl (Y.2 1, 4, .inl ala)), (ro 14, .inl (Y.2 0, 4, .inl fol)), (ro 15, .inl (Y.2 0, 4, .inl cts))] H0) (hv : th_RIv S val siz pro key kvi ksz krt ala fol cts) (x1 : Int32) : th_M l Y yX6_keptRoot cX6_keptRoot 2 (some .int) (th_rm 6 0 0) [.ref (ro 0), .int x1] H0 (fun z => z ∈ [ro 0, ro 1, ro 2, ro 3, ro 4, ro 5, ro 6, ro 7, ro 8, ro 9, ro 10, ro 11, ro 12, ro 13, ro 14, ro 15]) (th_ro Y ro (sp_keptRoot S x1)) := by
  refine th_M.intro (by decide) (Nat.le_of_ble_eq_true rfl) ?_
  intro p e s m args below meth c ls Q hQ C hKN hl hS
  obtain ⟨hx, hb, hr, hml, hown, hts, hlk, hnm⟩ := C
  obtain ⟨hK, hN⟩ := hKN
  have hown : s.vm.findClass RX6 = some m.cls := hown
  have hl : lv_has ls 2 [(0, .ref (ro 0)), (1, .int x1)] := hl
  have hD : va_D (fun z => z ∈ [ro 0, ro 1, ro 2, ro 3, ro 4, ro 5, ro 6, ro 7, ro 8, ro 9, ro 10, ro 11, ro 12, ro 13, ro 14, ro 15]) [(ro 0, .inr (6, [.int thr, .ref (ro 1), .ref (ro 2), .int (nI S.1), .ref (ro 3), .ref (ro 4), .ref (ro 5), .int (nI S.2.2.2.1), .ref (ro 6), .ref (ro 7), .int stp, .int efr, .int esz, .int etr, .ref (ro 8), .ref (ro 9), .ref (ro 10), .ref (ro 11), .ref (ro 12), .ref (ro 13), .ref (ro 14), .ref (ro 15)])), (ro 1, .inl (Y.2 0, 300, .inl val)), (ro 2, .inl (Y.2 0, 3, .inl siz)), (ro 3, .inl (Y.2 0, 8, .inl tre)), (ro 4, .inl (Y.2 0, 8, .inl spa)), (ro 5, .inl (Y.2 0, 12, .inl pro)), (ro 6, .inl (Y.2 0, 12, .inl bes)), (ro 7, .inl (Y.2 1, 12, .inl isr)), (ro 8, .inl (Y.2 0, 64, .inl key)), (ro 9, .inl (Y.2 0, 64, .inl lev)), (ro 10, .inl (Y.2 0, 4, .inl kvi)), (ro 11, .inl (Y.2 0, 4, .inl ksz)), (ro 12, .inl (Y.2 0, 4, .inl krt)), (ro 13, .inl (Y.2 1, 4, .inl ala)), (ro 14, .inl (Y.2 0, 4, .inl fol)), (ro 15, .inl (Y.2 0, 4, .inl cts))] := th_mem (th_gD hJ [0, 1, 2, 3, 4, 5, 6, 7, 8, 9, 10, 11, 12, 13, 14, 15] (fun k9 hk9 => by simp only [List.mem_cons, List.not_mem_nil, or_false] at hk9; omega) th_nd16 rfl)
  have hv1 := hv.1
  have hv12 := hv.2.2.1
  refine lv_aload_n hx hb dX6_keptRoot_0 rfl (lv_at hl 0 rfl) ?_
  refine lv_iload_n hx hb dX6_keptRoot_1 rfl (lv_at hl 1 rfl) ?_
  refine th_callS hx hb hml hown hts ⟨hK, hN⟩ hl hS (rest := [.ref (ro 0)]) (c_X6_isWatcher l Y _ x1) ok_X6_isWatcher tw_4_147 dX6_keptRoot_2 rfl rfl (Nat.le_of_ble_eq_true rfl) ⟨Nat.le_of_ble_eq_true rfl, Nat.le_of_ble_eq_true rfl⟩ ⟨Nat.le_of_ble_eq_true rfl, Nat.le_of_ble_eq_true rfl⟩ (fun _ h => h.elim) (th_kpi (fun locs hS => ?_))
  by_cases q1 : th_ir x1 0 4
  · refine th_ti (th_bT q1) ?_
    have uq9 := q1
    obtain ⟨j1, j1a, j1b, ux9⟩ := uq9
    subst ux9
    have zj1 : th_ix (nI j1) = j1 := th_ixN (by omega)
    refine th_zeq (tgt := 12) hx hb dX6_keptRoot_5 (by decide) (by omega) (fun c_1 => by exfalso; omega) (fun c_1 => ?_)
    refine lv_iconst (v := nI 0) hx hb dX6_keptRoot_8 (by decide) ?_
    refine lv_goto (tgt := 13) hx hb dX6_keptRoot_9 (by decide) ?_
    refine th_callV hx hb hml hown hts ⟨hK, hN⟩ hl hS (hP 0 _ rfl) rfl (rest := []) (c_X6_goesWell l Y _ ro thr stp efr esz etr S.1 S.2.2.2.1 (hP.sub (ws' := [(ro 0, .inr (6, [.int thr, .ref (ro 1), .ref (ro 2), .int (nI S.1), .ref (ro 3), .ref (ro 4), .ref (ro 5), .int (nI S.2.2.2.1), .ref (ro 6), .ref (ro 7), .int stp, .int efr, .int esz, .int etr, .ref (ro 8), .ref (ro 9), .ref (ro 10), .ref (ro 11), .ref (ro 12), .ref (ro 13), .ref (ro 14), .ref (ro 15)]))]) [0] rfl) 0 (by omega)) ok_X6_goesWell tw_4_1 dX6_keptRoot_13 rfl rfl (Nat.le_of_ble_eq_true rfl) ⟨Nat.le_of_ble_eq_true rfl, Nat.le_of_ble_eq_true rfl⟩ ⟨Nat.le_of_ble_eq_true rfl, Nat.le_of_ble_eq_true rfl⟩ (th_subL [0] rfl) (th_ki (fun rz9 H locs hp hsm hS => ?_))
    obtain ⟨hrz, hPc⟩ := hp
    have hP : va_P Y.1 vwCl [(ro 0, .inr (6, [.int (nI 0), .ref (ro 1), .ref (ro 2), .int (nI S.1), .ref (ro 3), .ref (ro 4), .ref (ro 5), .int (nI S.2.2.2.1), .ref (ro 6), .ref (ro 7), .int stp, .int efr, .int esz, .int etr, .ref (ro 8), .ref (ro 9), .ref (ro 10), .ref (ro 11), .ref (ro 12), .ref (ro 13), .ref (ro 14), .ref (ro 15)])), (ro 1, .inl (Y.2 0, 300, .inl val)), (ro 2, .inl (Y.2 0, 3, .inl siz)), (ro 3, .inl (Y.2 0, 8, .inl tre)), (ro 4, .inl (Y.2 0, 8, .inl spa)), (ro 5, .inl (Y.2 0, 12, .inl pro)), (ro 6, .inl (Y.2 0, 12, .inl bes)), (ro 7, .inl (Y.2 1, 12, .inl isr)), (ro 8, .inl (Y.2 0, 64, .inl key)), (ro 9, .inl (Y.2 0, 64, .inl lev)), (ro 10, .inl (Y.2 0, 4, .inl kvi)), (ro 11, .inl (Y.2 0, 4, .inl ksz)), (ro 12, .inl (Y.2 0, 4, .inl krt)), (ro 13, .inl (Y.2 1, 4, .inl ala)), (ro 14, .inl (Y.2 0, 4, .inl fol)), (ro 15, .inl (Y.2 0, 4, .inl cts))] _ := (th_join (wr := [(ro 1, .inl (Y.2 0, 300, .inl val)), (ro 2, .inl (Y.2 0, 3, .inl siz)), (ro 3, .inl (Y.2 0, 8, .inl tre)), (ro 4, .inl (Y.2 0, 8, .inl spa)), (ro 5, .inl (Y.2 0, 12, .inl pro)), (ro 6, .inl (Y.2 0, 12, .inl bes)), (ro 7, .inl (Y.2 1, 12, .inl isr)), (ro 8, .inl (Y.2 0, 64, .inl key)), (ro 9, .inl (Y.2 0, 64, .inl lev)), (ro 10, .inl (Y.2 0, 4, .inl kvi)), (ro 11, .inl (Y.2 0, 4, .inl ksz)), (ro 12, .inl (Y.2 0, 4, .inl krt)), (ro 13, .inl (Y.2 1, 4, .inl ala)), (ro 14, .inl (Y.2 0, 4, .inl fol)), (ro 15, .inl (Y.2 0, 4, .inl cts))]) hP hD [1, 2, 3, 4, 5, 6, 7, 8, 9, 10, 11, 12, 13, 14, 15] [0] rfl rfl (by decide) hsm hPc).sub [15, 0, 1, 2, 3, 4, 5, 6, 7, 8, 9, 10, 11, 12, 13, 14] rfl
    have hD : va_D _ [(ro 0, .inr (6, [.int (nI 0), .ref (ro 1), .ref (ro 2), .int (nI S.1), .ref (ro 3), .ref (ro 4), .ref (ro 5), .int (nI S.2.2.2.1), .ref (ro 6), .ref (ro 7), .int stp, .int efr, .int esz, .int etr, .ref (ro 8), .ref (ro 9), .ref (ro 10), .ref (ro 11), .ref (ro 12), .ref (ro 13), .ref (ro 14), .ref (ro 15)])), (ro 1, .inl (Y.2 0, 300, .inl val)), (ro 2, .inl (Y.2 0, 3, .inl siz)), (ro 3, .inl (Y.2 0, 8, .inl tre)), (ro 4, .inl (Y.2 0, 8, .inl spa)), (ro 5, .inl (Y.2 0, 12, .inl pro)), (ro 6, .inl (Y.2 0, 12, .inl bes)), (ro 7, .inl (Y.2 1, 12, .inl isr)), (ro 8, .inl (Y.2 0, 64, .inl key)), (ro 9, .inl (Y.2 0, 64, .inl lev)), (ro 10, .inl (Y.2 0, 4, .inl kvi)), (ro 11, .inl (Y.2 0, 4, .inl ksz)), (ro 12, .inl (Y.2 0, 4, .inl krt)), (ro 13, .inl (Y.2 1, 4, .inl ala)), (ro 14, .inl (Y.2 0, 4, .inl fol)), (ro 15, .inl (Y.2 0, 4, .inl cts))] := th_Dsame hD rfl
    obtain rfl : rz9 = nI 1 := by rw [hrz]; rfl
    refine th_zeq (tgt := 28) hx hb dX6_keptRoot_16 (by decide) (by omega) (fun c_2 => by exfalso; omega) (fun c_2 => ?_)
    refine lv_aload_n hx hb dX6_keptRoot_19 rfl (lv_at hl 0 rfl) ?_
    refine va_get (D := Y.1) (ci := 6) (v := .ref (ro 12)) (C := RX6) (T := TX6) (N := 22) hx hb hts inX6 hown hK hP 0 rfl rfl 18 (by decide) (hts _ tw_3_173) (fun _ h9 => h9) rfl dX6_keptRoot_20 ?_
    refine lv_iload_n hx hb dX6_keptRoot_23 rfl (lv_at hl 1 rfl) ?_
    refine th_iald hx hb hK hP 12 rfl (j := j1) (by omega) (by omega) dX6_keptRoot_24 ?_
    refine lv_goto (tgt := 29) hx hb dX6_keptRoot_25 (by decide) ?_
    refine th_iret hx hb hr hlk hQ hS dX6_keptRoot_29 (Nat.le_of_ble_eq_true rfl) (Nat.le_of_ble_eq_true rfl) ?_
    show th_ro Y ro (_) _ _
    unfold sp_keptRoot
    simp only [zj1]
    rw [th_ifT q1]
    exact th_roT ((hv.2.2.2.2.2 j1 j1b).1.2.1) (th_rgI hP (hv))
    
  refine th_ti (th_bF q1) ?_
  refine th_zeq (tgt := 12) hx hb dX6_keptRoot_5 (by decide) (by omega) (fun c_3 => ?_) (fun c_3 => by exfalso; omega)
  refine lv_iconst (v := nI 1) hx hb dX6_keptRoot_12 (by decide) ?_
  refine th_callV hx hb hml hown hts ⟨hK, hN⟩ hl hS (hP 0 _ rfl) rfl (rest := []) (c_X6_goesWell l Y _ ro thr stp efr esz etr S.1 S.2.2.2.1 (hP.sub (ws' := [(ro 0, .inr (6, [.int thr, .ref (ro 1), .ref (ro 2), .int (nI S.1), .ref (ro 3), .ref (ro 4), .ref (ro 5), .int (nI S.2.2.2.1), .ref (ro 6), .ref (ro 7), .int stp, .int efr, .int esz, .int etr, .ref (ro 8), .ref (ro 9), .ref (ro 10), .ref (ro 11), .ref (ro 12), .ref (ro 13), .ref (ro 14), .ref (ro 15)]))]) [0] rfl) 1 (by omega)) ok_X6_goesWell tw_4_1 dX6_keptRoot_13 rfl rfl (Nat.le_of_ble_eq_true rfl) ⟨Nat.le_of_ble_eq_true rfl, Nat.le_of_ble_eq_true rfl⟩ ⟨Nat.le_of_ble_eq_true rfl, Nat.le_of_ble_eq_true rfl⟩ (th_subL [0] rfl) (th_ki (fun rz9 H locs hp hsm hS => ?_))
  obtain ⟨hrz, hPc⟩ := hp
  have hP : va_P Y.1 vwCl [(ro 0, .inr (6, [.int (nI 1), .ref (ro 1), .ref (ro 2), .int (nI S.1), .ref (ro 3), .ref (ro 4), .ref (ro 5), .int (nI S.2.2.2.1), .ref (ro 6), .ref (ro 7), .int stp, .int efr, .int esz, .int etr, .ref (ro 8), .ref (ro 9), .ref (ro 10), .ref (ro 11), .ref (ro 12), .ref (ro 13), .ref (ro 14), .ref (ro 15)])), (ro 1, .inl (Y.2 0, 300, .inl val)), (ro 2, .inl (Y.2 0, 3, .inl siz)), (ro 3, .inl (Y.2 0, 8, .inl tre)), (ro 4, .inl (Y.2 0, 8, .inl spa)), (ro 5, .inl (Y.2 0, 12, .inl pro)), (ro 6, .inl (Y.2 0, 12, .inl bes)), (ro 7, .inl (Y.2 1, 12, .inl isr)), (ro 8, .inl (Y.2 0, 64, .inl key)), (ro 9, .inl (Y.2 0, 64, .inl lev)), (ro 10, .inl (Y.2 0, 4, .inl kvi)), (ro 11, .inl (Y.2 0, 4, .inl ksz)), (ro 12, .inl (Y.2 0, 4, .inl krt)), (ro 13, .inl (Y.2 1, 4, .inl ala)), (ro 14, .inl (Y.2 0, 4, .inl fol)), (ro 15, .inl (Y.2 0, 4, .inl cts))] _ := (th_join (wr := [(ro 1, .inl (Y.2 0, 300, .inl val)), (ro 2, .inl (Y.2 0, 3, .inl siz)), (ro 3, .inl (Y.2 0, 8, .inl tre)), (ro 4, .inl (Y.2 0, 8, .inl spa)), (ro 5, .inl (Y.2 0, 12, .inl pro)), (ro 6, .inl (Y.2 0, 12, .inl bes)), (ro 7, .inl (Y.2 1, 12, .inl isr)), (ro 8, .inl (Y.2 0, 64, .inl key)), (ro 9, .inl (Y.2 0, 64, .inl lev)), (ro 10, .inl (Y.2 0, 4, .inl kvi)), (ro 11, .inl (Y.2 0, 4, .inl ksz)), (ro 12, .inl (Y.2 0, 4, .inl krt)), (ro 13, .inl (Y.2 1, 4, .inl ala)), (ro 14, .inl (Y.2 0, 4, .inl fol)), (ro 15, .inl (Y.2 0, 4, .inl cts))]) hP hD [1, 2, 3, 4, 5, 6, 7, 8, 9, 10, 11, 12, 13, 14, 15] [0] rfl rfl (by decide) hsm hPc).sub [15, 0, 1, 2, 3, 4, 5, 6, 7, 8, 9, 10, 11, 12, 13, 14] rfl
  have hD : va_D _ [(ro 0, .inr (6, [.int (nI 1), .ref (ro 1), .ref (ro 2), .int (nI S.1), .ref (ro 3), .ref (ro 4), .ref (ro 5), .int (nI S.2.2.2.1), .ref (ro 6), .ref (ro 7), .int stp, .int efr, .int esz, .int etr, .ref (ro 8), .ref (ro 9), .ref (ro 10), .ref (ro 11), .ref (ro 12), .ref (ro 13), .ref (ro 14), .ref (ro 15)])), (ro 1, .inl (Y.2 0, 300, .inl val)), (ro 2, .inl (Y.2 0, 3, .inl siz)), (ro 3, .inl (Y.2 0, 8, .inl tre)), (ro 4, .inl (Y.2 0, 8, .inl spa)), (ro 5, .inl (Y.2 0, 12, .inl pro)), (ro 6, .inl (Y.2 0, 12, .inl bes)), (ro 7, .inl (Y.2 1, 12, .inl isr)), (ro 8, .inl (Y.2 0, 64, .inl key)), (ro 9, .inl (Y.2 0, 64, .inl lev)), (ro 10, .inl (Y.2 0, 4, .inl kvi)), (ro 11, .inl (Y.2 0, 4, .inl ksz)), (ro 12, .inl (Y.2 0, 4, .inl krt)), (ro 13, .inl (Y.2 1, 4, .inl ala)), (ro 14, .inl (Y.2 0, 4, .inl fol)), (ro 15, .inl (Y.2 0, 4, .inl cts))] := th_Dsame hD rfl
  obtain rfl : rz9 = nI 0 := by rw [hrz]; rfl
  refine th_zeq (tgt := 28) hx hb dX6_keptRoot_16 (by decide) (by omega) (fun c_4 => ?_) (fun c_4 => by exfalso; omega)
  refine lv_iconst (v := nI 0) hx hb dX6_keptRoot_28 (by decide) ?_
  refine th_iret hx hb hr hlk hQ hS dX6_keptRoot_29 (Nat.le_of_ble_eq_true rfl) (Nat.le_of_ble_eq_true rfl) ?_
  show th_ro Y ro (_) _ _
  unfold sp_keptRoot
  rw [th_ifF (fun z9 => q1 z9)]
  exact th_roF (by decide) (th_rgI hP hv)
  

set_option maxRecDepth 100000 in
set_option maxHeartbeats 800000 in
theorem c_X6_counted (l : Launch) (Y : th_Y) (H0 : Heap) (ro : Nat → Nat) (hJ : th_gJ ro 16) (S : th_S) (thr stp efr esz etr : Int32) (val siz tre spa pro bes isr key lev kvi ksz krt ala fol cts : Nat → Int32) (hP : va_P Y.1 vwCl [(ro 0, .inr (6, [.int thr, .ref (ro 1), .ref (ro 2), .int (nI S.1), .ref (ro 3), .ref (ro 4), .ref (ro 5), .int (nI S.2.2.2.1), .ref (ro 6), .ref (ro 7), .int stp, .int efr, .int esz, .int etr, .ref (ro 8), .ref (ro 9), .ref (ro 10), .ref (ro 11), .ref (ro 12), .ref (ro 13), .ref (ro 14), .ref (ro 15)])), (ro 1, .inl (Y.2 0, 300, .inl val)), (ro 2, .inl (Y.2 0, 3, .inl siz)), (ro 3, .inl (Y.2 0, 8, .inl tre)), (ro 4, .inl (Y.2 0, 8, .inl spa)), (ro 5, .inl (Y.2 0, 12, .inl pro)), (ro 6, .inl (Y.2 0, 12, .inl bes)), (ro 7, .inl (Y.2 1, 12, .inl isr)), (ro 8, .inl (Y.2 0, 64, .inl key)), (ro 9, .inl (Y.2 0, 64, .inl lev)), (ro 10, .inl (Y.2 0, 4, .inl kvi)), (ro 11, .inl (Y.2 0, 4, .inl ksz)), (ro 12, .inl (Y.2 0, 4, .inl krt)), (ro 13, .inl (Y.2 1, 4, .inl ala)), (ro 14, .inl (Y.2 0, 4, .inl fol)), (ro 15, .inl (Y.2 0, 4, .inl cts))] H0) (hv : th_RIv S val siz pro key kvi ksz krt ala fol cts) (x1 : Int32) : th_M l Y yX6_counted cX6_counted 2 (some .int) (th_rm 6 0 0) [.ref (ro 0), .int x1] H0 (fun z => z ∈ [ro 0, ro 1, ro 2, ro 3, ro 4, ro 5, ro 6, ro 7, ro 8, ro 9, ro 10, ro 11, ro 12, ro 13, ro 14, ro 15]) (th_ro Y ro (sp_counted S x1)) := by
  refine th_M.intro (by decide) (Nat.le_of_ble_eq_true rfl) ?_
  intro p e s m args below meth c ls Q hQ C hKN hl hS
  obtain ⟨hx, hb, hr, hml, hown, hts, hlk, hnm⟩ := C
  obtain ⟨hK, hN⟩ := hKN
  have hown : s.vm.findClass RX6 = some m.cls := hown
  have hl : lv_has ls 2 [(0, .ref (ro 0)), (1, .int x1)] := hl
  have hD : va_D (fun z => z ∈ [ro 0, ro 1, ro 2, ro 3, ro 4, ro 5, ro 6, ro 7, ro 8, ro 9, ro 10, ro 11, ro 12, ro 13, ro 14, ro 15]) [(ro 0, .inr (6, [.int thr, .ref (ro 1), .ref (ro 2), .int (nI S.1), .ref (ro 3), .ref (ro 4), .ref (ro 5), .int (nI S.2.2.2.1), .ref (ro 6), .ref (ro 7), .int stp, .int efr, .int esz, .int etr, .ref (ro 8), .ref (ro 9), .ref (ro 10), .ref (ro 11), .ref (ro 12), .ref (ro 13), .ref (ro 14), .ref (ro 15)])), (ro 1, .inl (Y.2 0, 300, .inl val)), (ro 2, .inl (Y.2 0, 3, .inl siz)), (ro 3, .inl (Y.2 0, 8, .inl tre)), (ro 4, .inl (Y.2 0, 8, .inl spa)), (ro 5, .inl (Y.2 0, 12, .inl pro)), (ro 6, .inl (Y.2 0, 12, .inl bes)), (ro 7, .inl (Y.2 1, 12, .inl isr)), (ro 8, .inl (Y.2 0, 64, .inl key)), (ro 9, .inl (Y.2 0, 64, .inl lev)), (ro 10, .inl (Y.2 0, 4, .inl kvi)), (ro 11, .inl (Y.2 0, 4, .inl ksz)), (ro 12, .inl (Y.2 0, 4, .inl krt)), (ro 13, .inl (Y.2 1, 4, .inl ala)), (ro 14, .inl (Y.2 0, 4, .inl fol)), (ro 15, .inl (Y.2 0, 4, .inl cts))] := th_mem (th_gD hJ [0, 1, 2, 3, 4, 5, 6, 7, 8, 9, 10, 11, 12, 13, 14, 15] (fun k9 hk9 => by simp only [List.mem_cons, List.not_mem_nil, or_false] at hk9; omega) th_nd16 rfl)
  have hv1 := hv.1
  have hv12 := hv.2.2.1
  refine lv_aload_n hx hb dX6_counted_0 rfl (lv_at hl 0 rfl) ?_
  refine lv_iload_n hx hb dX6_counted_1 rfl (lv_at hl 1 rfl) ?_
  refine th_callS hx hb hml hown hts ⟨hK, hN⟩ hl hS (rest := [.ref (ro 0)]) (c_X6_isWatcher l Y _ x1) ok_X6_isWatcher tw_4_147 dX6_counted_2 rfl rfl (Nat.le_of_ble_eq_true rfl) ⟨Nat.le_of_ble_eq_true rfl, Nat.le_of_ble_eq_true rfl⟩ ⟨Nat.le_of_ble_eq_true rfl, Nat.le_of_ble_eq_true rfl⟩ (fun _ h => h.elim) (th_kpi (fun locs hS => ?_))
  by_cases q1 : th_ir x1 0 4
  · refine th_ti (th_bT q1) ?_
    have uq9 := q1
    obtain ⟨j1, j1a, j1b, ux9⟩ := uq9
    subst ux9
    have zj1 : th_ix (nI j1) = j1 := th_ixN (by omega)
    refine th_zeq (tgt := 12) hx hb dX6_counted_5 (by decide) (by omega) (fun c_1 => by exfalso; omega) (fun c_1 => ?_)
    refine lv_iconst (v := nI 0) hx hb dX6_counted_8 (by decide) ?_
    refine lv_goto (tgt := 13) hx hb dX6_counted_9 (by decide) ?_
    refine th_callV hx hb hml hown hts ⟨hK, hN⟩ hl hS (hP 0 _ rfl) rfl (rest := []) (c_X6_goesWell l Y _ ro thr stp efr esz etr S.1 S.2.2.2.1 (hP.sub (ws' := [(ro 0, .inr (6, [.int thr, .ref (ro 1), .ref (ro 2), .int (nI S.1), .ref (ro 3), .ref (ro 4), .ref (ro 5), .int (nI S.2.2.2.1), .ref (ro 6), .ref (ro 7), .int stp, .int efr, .int esz, .int etr, .ref (ro 8), .ref (ro 9), .ref (ro 10), .ref (ro 11), .ref (ro 12), .ref (ro 13), .ref (ro 14), .ref (ro 15)]))]) [0] rfl) 0 (by omega)) ok_X6_goesWell tw_4_1 dX6_counted_13 rfl rfl (Nat.le_of_ble_eq_true rfl) ⟨Nat.le_of_ble_eq_true rfl, Nat.le_of_ble_eq_true rfl⟩ ⟨Nat.le_of_ble_eq_true rfl, Nat.le_of_ble_eq_true rfl⟩ (th_subL [0] rfl) (th_ki (fun rz9 H locs hp hsm hS => ?_))
    obtain ⟨hrz, hPc⟩ := hp
    have hP : va_P Y.1 vwCl [(ro 0, .inr (6, [.int (nI 0), .ref (ro 1), .ref (ro 2), .int (nI S.1), .ref (ro 3), .ref (ro 4), .ref (ro 5), .int (nI S.2.2.2.1), .ref (ro 6), .ref (ro 7), .int stp, .int efr, .int esz, .int etr, .ref (ro 8), .ref (ro 9), .ref (ro 10), .ref (ro 11), .ref (ro 12), .ref (ro 13), .ref (ro 14), .ref (ro 15)])), (ro 1, .inl (Y.2 0, 300, .inl val)), (ro 2, .inl (Y.2 0, 3, .inl siz)), (ro 3, .inl (Y.2 0, 8, .inl tre)), (ro 4, .inl (Y.2 0, 8, .inl spa)), (ro 5, .inl (Y.2 0, 12, .inl pro)), (ro 6, .inl (Y.2 0, 12, .inl bes)), (ro 7, .inl (Y.2 1, 12, .inl isr)), (ro 8, .inl (Y.2 0, 64, .inl key)), (ro 9, .inl (Y.2 0, 64, .inl lev)), (ro 10, .inl (Y.2 0, 4, .inl kvi)), (ro 11, .inl (Y.2 0, 4, .inl ksz)), (ro 12, .inl (Y.2 0, 4, .inl krt)), (ro 13, .inl (Y.2 1, 4, .inl ala)), (ro 14, .inl (Y.2 0, 4, .inl fol)), (ro 15, .inl (Y.2 0, 4, .inl cts))] _ := (th_join (wr := [(ro 1, .inl (Y.2 0, 300, .inl val)), (ro 2, .inl (Y.2 0, 3, .inl siz)), (ro 3, .inl (Y.2 0, 8, .inl tre)), (ro 4, .inl (Y.2 0, 8, .inl spa)), (ro 5, .inl (Y.2 0, 12, .inl pro)), (ro 6, .inl (Y.2 0, 12, .inl bes)), (ro 7, .inl (Y.2 1, 12, .inl isr)), (ro 8, .inl (Y.2 0, 64, .inl key)), (ro 9, .inl (Y.2 0, 64, .inl lev)), (ro 10, .inl (Y.2 0, 4, .inl kvi)), (ro 11, .inl (Y.2 0, 4, .inl ksz)), (ro 12, .inl (Y.2 0, 4, .inl krt)), (ro 13, .inl (Y.2 1, 4, .inl ala)), (ro 14, .inl (Y.2 0, 4, .inl fol)), (ro 15, .inl (Y.2 0, 4, .inl cts))]) hP hD [1, 2, 3, 4, 5, 6, 7, 8, 9, 10, 11, 12, 13, 14, 15] [0] rfl rfl (by decide) hsm hPc).sub [15, 0, 1, 2, 3, 4, 5, 6, 7, 8, 9, 10, 11, 12, 13, 14] rfl
    have hD : va_D _ [(ro 0, .inr (6, [.int (nI 0), .ref (ro 1), .ref (ro 2), .int (nI S.1), .ref (ro 3), .ref (ro 4), .ref (ro 5), .int (nI S.2.2.2.1), .ref (ro 6), .ref (ro 7), .int stp, .int efr, .int esz, .int etr, .ref (ro 8), .ref (ro 9), .ref (ro 10), .ref (ro 11), .ref (ro 12), .ref (ro 13), .ref (ro 14), .ref (ro 15)])), (ro 1, .inl (Y.2 0, 300, .inl val)), (ro 2, .inl (Y.2 0, 3, .inl siz)), (ro 3, .inl (Y.2 0, 8, .inl tre)), (ro 4, .inl (Y.2 0, 8, .inl spa)), (ro 5, .inl (Y.2 0, 12, .inl pro)), (ro 6, .inl (Y.2 0, 12, .inl bes)), (ro 7, .inl (Y.2 1, 12, .inl isr)), (ro 8, .inl (Y.2 0, 64, .inl key)), (ro 9, .inl (Y.2 0, 64, .inl lev)), (ro 10, .inl (Y.2 0, 4, .inl kvi)), (ro 11, .inl (Y.2 0, 4, .inl ksz)), (ro 12, .inl (Y.2 0, 4, .inl krt)), (ro 13, .inl (Y.2 1, 4, .inl ala)), (ro 14, .inl (Y.2 0, 4, .inl fol)), (ro 15, .inl (Y.2 0, 4, .inl cts))] := th_Dsame hD rfl
    obtain rfl : rz9 = nI 1 := by rw [hrz]; rfl
    refine th_zeq (tgt := 28) hx hb dX6_counted_16 (by decide) (by omega) (fun c_2 => by exfalso; omega) (fun c_2 => ?_)
    refine lv_aload_n hx hb dX6_counted_19 rfl (lv_at hl 0 rfl) ?_
    refine va_get (D := Y.1) (ci := 6) (v := .ref (ro 15)) (C := RX6) (T := TX6) (N := 22) hx hb hts inX6 hown hK hP 0 rfl rfl 21 (by decide) (hts _ tw_3_176) (fun _ h9 => h9) rfl dX6_counted_20 ?_
    refine lv_iload_n hx hb dX6_counted_23 rfl (lv_at hl 1 rfl) ?_
    refine th_iald hx hb hK hP 15 rfl (j := j1) (by omega) (by omega) dX6_counted_24 ?_
    refine lv_goto (tgt := 29) hx hb dX6_counted_25 (by decide) ?_
    refine th_iret hx hb hr hlk hQ hS dX6_counted_29 (Nat.le_of_ble_eq_true rfl) (Nat.le_of_ble_eq_true rfl) ?_
    show th_ro Y ro (_) _ _
    unfold sp_counted
    simp only [zj1]
    rw [th_ifT q1]
    exact th_roT ((hv.2.2.2.2.2 j1 j1b).1.2.2.2.2) (th_rgI hP (hv))
    
  refine th_ti (th_bF q1) ?_
  refine th_zeq (tgt := 12) hx hb dX6_counted_5 (by decide) (by omega) (fun c_3 => ?_) (fun c_3 => by exfalso; omega)
  refine lv_iconst (v := nI 1) hx hb dX6_counted_12 (by decide) ?_
  refine th_callV hx hb hml hown hts ⟨hK, hN⟩ hl hS (hP 0 _ rfl) rfl (rest := []) (c_X6_goesWell l Y _ ro thr stp efr esz etr S.1 S.2.2.2.1 (hP.sub (ws' := [(ro 0, .inr (6, [.int thr, .ref (ro 1), .ref (ro 2), .int (nI S.1), .ref (ro 3), .ref (ro 4), .ref (ro 5), .int (nI S.2.2.2.1), .ref (ro 6), .ref (ro 7), .int stp, .int efr, .int esz, .int etr, .ref (ro 8), .ref (ro 9), .ref (ro 10), .ref (ro 11), .ref (ro 12), .ref (ro 13), .ref (ro 14), .ref (ro 15)]))]) [0] rfl) 1 (by omega)) ok_X6_goesWell tw_4_1 dX6_counted_13 rfl rfl (Nat.le_of_ble_eq_true rfl) ⟨Nat.le_of_ble_eq_true rfl, Nat.le_of_ble_eq_true rfl⟩ ⟨Nat.le_of_ble_eq_true rfl, Nat.le_of_ble_eq_true rfl⟩ (th_subL [0] rfl) (th_ki (fun rz9 H locs hp hsm hS => ?_))
  obtain ⟨hrz, hPc⟩ := hp
  have hP : va_P Y.1 vwCl [(ro 0, .inr (6, [.int (nI 1), .ref (ro 1), .ref (ro 2), .int (nI S.1), .ref (ro 3), .ref (ro 4), .ref (ro 5), .int (nI S.2.2.2.1), .ref (ro 6), .ref (ro 7), .int stp, .int efr, .int esz, .int etr, .ref (ro 8), .ref (ro 9), .ref (ro 10), .ref (ro 11), .ref (ro 12), .ref (ro 13), .ref (ro 14), .ref (ro 15)])), (ro 1, .inl (Y.2 0, 300, .inl val)), (ro 2, .inl (Y.2 0, 3, .inl siz)), (ro 3, .inl (Y.2 0, 8, .inl tre)), (ro 4, .inl (Y.2 0, 8, .inl spa)), (ro 5, .inl (Y.2 0, 12, .inl pro)), (ro 6, .inl (Y.2 0, 12, .inl bes)), (ro 7, .inl (Y.2 1, 12, .inl isr)), (ro 8, .inl (Y.2 0, 64, .inl key)), (ro 9, .inl (Y.2 0, 64, .inl lev)), (ro 10, .inl (Y.2 0, 4, .inl kvi)), (ro 11, .inl (Y.2 0, 4, .inl ksz)), (ro 12, .inl (Y.2 0, 4, .inl krt)), (ro 13, .inl (Y.2 1, 4, .inl ala)), (ro 14, .inl (Y.2 0, 4, .inl fol)), (ro 15, .inl (Y.2 0, 4, .inl cts))] _ := (th_join (wr := [(ro 1, .inl (Y.2 0, 300, .inl val)), (ro 2, .inl (Y.2 0, 3, .inl siz)), (ro 3, .inl (Y.2 0, 8, .inl tre)), (ro 4, .inl (Y.2 0, 8, .inl spa)), (ro 5, .inl (Y.2 0, 12, .inl pro)), (ro 6, .inl (Y.2 0, 12, .inl bes)), (ro 7, .inl (Y.2 1, 12, .inl isr)), (ro 8, .inl (Y.2 0, 64, .inl key)), (ro 9, .inl (Y.2 0, 64, .inl lev)), (ro 10, .inl (Y.2 0, 4, .inl kvi)), (ro 11, .inl (Y.2 0, 4, .inl ksz)), (ro 12, .inl (Y.2 0, 4, .inl krt)), (ro 13, .inl (Y.2 1, 4, .inl ala)), (ro 14, .inl (Y.2 0, 4, .inl fol)), (ro 15, .inl (Y.2 0, 4, .inl cts))]) hP hD [1, 2, 3, 4, 5, 6, 7, 8, 9, 10, 11, 12, 13, 14, 15] [0] rfl rfl (by decide) hsm hPc).sub [15, 0, 1, 2, 3, 4, 5, 6, 7, 8, 9, 10, 11, 12, 13, 14] rfl
  have hD : va_D _ [(ro 0, .inr (6, [.int (nI 1), .ref (ro 1), .ref (ro 2), .int (nI S.1), .ref (ro 3), .ref (ro 4), .ref (ro 5), .int (nI S.2.2.2.1), .ref (ro 6), .ref (ro 7), .int stp, .int efr, .int esz, .int etr, .ref (ro 8), .ref (ro 9), .ref (ro 10), .ref (ro 11), .ref (ro 12), .ref (ro 13), .ref (ro 14), .ref (ro 15)])), (ro 1, .inl (Y.2 0, 300, .inl val)), (ro 2, .inl (Y.2 0, 3, .inl siz)), (ro 3, .inl (Y.2 0, 8, .inl tre)), (ro 4, .inl (Y.2 0, 8, .inl spa)), (ro 5, .inl (Y.2 0, 12, .inl pro)), (ro 6, .inl (Y.2 0, 12, .inl bes)), (ro 7, .inl (Y.2 1, 12, .inl isr)), (ro 8, .inl (Y.2 0, 64, .inl key)), (ro 9, .inl (Y.2 0, 64, .inl lev)), (ro 10, .inl (Y.2 0, 4, .inl kvi)), (ro 11, .inl (Y.2 0, 4, .inl ksz)), (ro 12, .inl (Y.2 0, 4, .inl krt)), (ro 13, .inl (Y.2 1, 4, .inl ala)), (ro 14, .inl (Y.2 0, 4, .inl fol)), (ro 15, .inl (Y.2 0, 4, .inl cts))] := th_Dsame hD rfl
  obtain rfl : rz9 = nI 0 := by rw [hrz]; rfl
  refine th_zeq (tgt := 28) hx hb dX6_counted_16 (by decide) (by omega) (fun c_4 => ?_) (fun c_4 => by exfalso; omega)
  refine lv_iconst (v := nI 0) hx hb dX6_counted_28 (by decide) ?_
  refine th_iret hx hb hr hlk hQ hS dX6_counted_29 (Nat.le_of_ble_eq_true rfl) (Nat.le_of_ble_eq_true rfl) ?_
  show th_ro Y ro (_) _ _
  unfold sp_counted
  rw [th_ifF (fun z9 => q1 z9)]
  exact th_roF (by decide) (th_rgI hP hv)
  

set_option maxRecDepth 100000 in
set_option maxHeartbeats 800000 in
theorem c_X6_append (l : Launch) (Y : th_Y) (H0 : Heap) (ro : Nat → Nat) (hJ : th_gJ ro 16) (S : th_S) (thr stp efr esz etr : Int32) (val siz tre spa pro bes isr key lev kvi ksz krt ala fol cts : Nat → Int32) (hP : va_P Y.1 vwCl [(ro 0, .inr (6, [.int thr, .ref (ro 1), .ref (ro 2), .int (nI S.1), .ref (ro 3), .ref (ro 4), .ref (ro 5), .int (nI S.2.2.2.1), .ref (ro 6), .ref (ro 7), .int stp, .int efr, .int esz, .int etr, .ref (ro 8), .ref (ro 9), .ref (ro 10), .ref (ro 11), .ref (ro 12), .ref (ro 13), .ref (ro 14), .ref (ro 15)])), (ro 1, .inl (Y.2 0, 300, .inl val)), (ro 2, .inl (Y.2 0, 3, .inl siz)), (ro 3, .inl (Y.2 0, 8, .inl tre)), (ro 4, .inl (Y.2 0, 8, .inl spa)), (ro 5, .inl (Y.2 0, 12, .inl pro)), (ro 6, .inl (Y.2 0, 12, .inl bes)), (ro 7, .inl (Y.2 1, 12, .inl isr)), (ro 8, .inl (Y.2 0, 64, .inl key)), (ro 9, .inl (Y.2 0, 64, .inl lev)), (ro 10, .inl (Y.2 0, 4, .inl kvi)), (ro 11, .inl (Y.2 0, 4, .inl ksz)), (ro 12, .inl (Y.2 0, 4, .inl krt)), (ro 13, .inl (Y.2 1, 4, .inl ala)), (ro 14, .inl (Y.2 0, 4, .inl fol)), (ro 15, .inl (Y.2 0, 4, .inl cts))] H0) (hv : th_RIv S val siz pro key kvi ksz krt ala fol cts) (x1 x2 : Int32) : th_M l Y yX6_append cX6_append 3 (some .int) (th_rm 6 0 0) [.ref (ro 0), .int x1, .int x2] H0 (fun z => z ∈ [ro 0, ro 1, ro 2, ro 3, ro 4, ro 5, ro 6, ro 7, ro 8, ro 9, ro 10, ro 11, ro 12, ro 13, ro 14, ro 15]) (th_ro Y ro (sp_append S x1 x2)) := by
  refine th_M.intro (by decide) (Nat.le_of_ble_eq_true rfl) ?_
  intro p e s m args below meth c ls Q hQ C hKN hl hS
  obtain ⟨hx, hb, hr, hml, hown, hts, hlk, hnm⟩ := C
  obtain ⟨hK, hN⟩ := hKN
  have hown : s.vm.findClass RX6 = some m.cls := hown
  have hl : lv_has ls 3 [(0, .ref (ro 0)), (1, .int x1), (2, .int x2)] := hl
  have hD : va_D (fun z => z ∈ [ro 0, ro 1, ro 2, ro 3, ro 4, ro 5, ro 6, ro 7, ro 8, ro 9, ro 10, ro 11, ro 12, ro 13, ro 14, ro 15]) [(ro 0, .inr (6, [.int thr, .ref (ro 1), .ref (ro 2), .int (nI S.1), .ref (ro 3), .ref (ro 4), .ref (ro 5), .int (nI S.2.2.2.1), .ref (ro 6), .ref (ro 7), .int stp, .int efr, .int esz, .int etr, .ref (ro 8), .ref (ro 9), .ref (ro 10), .ref (ro 11), .ref (ro 12), .ref (ro 13), .ref (ro 14), .ref (ro 15)])), (ro 1, .inl (Y.2 0, 300, .inl val)), (ro 2, .inl (Y.2 0, 3, .inl siz)), (ro 3, .inl (Y.2 0, 8, .inl tre)), (ro 4, .inl (Y.2 0, 8, .inl spa)), (ro 5, .inl (Y.2 0, 12, .inl pro)), (ro 6, .inl (Y.2 0, 12, .inl bes)), (ro 7, .inl (Y.2 1, 12, .inl isr)), (ro 8, .inl (Y.2 0, 64, .inl key)), (ro 9, .inl (Y.2 0, 64, .inl lev)), (ro 10, .inl (Y.2 0, 4, .inl kvi)), (ro 11, .inl (Y.2 0, 4, .inl ksz)), (ro 12, .inl (Y.2 0, 4, .inl krt)), (ro 13, .inl (Y.2 1, 4, .inl ala)), (ro 14, .inl (Y.2 0, 4, .inl fol)), (ro 15, .inl (Y.2 0, 4, .inl cts))] := th_mem (th_gD hJ [0, 1, 2, 3, 4, 5, 6, 7, 8, 9, 10, 11, 12, 13, 14, 15] (fun k9 hk9 => by simp only [List.mem_cons, List.not_mem_nil, or_false] at hk9; omega) th_nd16 rfl)
  have hv1 := hv.1
  have hv12 := hv.2.2.1
  refine lv_aload_n hx hb dX6_append_0 rfl (lv_at hl 0 rfl) ?_
  refine lv_aload_n hx hb dX6_append_1 rfl (lv_at hl 0 rfl) ?_
  refine lv_iload_n hx hb dX6_append_2 rfl (lv_at hl 1 rfl) ?_
  refine th_callV hx hb hml hown hts ⟨hK, hN⟩ hl hS (hP 0 _ rfl) rfl (rest := [.ref (ro 0)]) (c_X6_isView l Y _ ro thr stp efr esz etr S.1 S.2.2.2.1 (hP.sub (ws' := [(ro 0, .inr (6, [.int thr, .ref (ro 1), .ref (ro 2), .int (nI S.1), .ref (ro 3), .ref (ro 4), .ref (ro 5), .int (nI S.2.2.2.1), .ref (ro 6), .ref (ro 7), .int stp, .int efr, .int esz, .int etr, .ref (ro 8), .ref (ro 9), .ref (ro 10), .ref (ro 11), .ref (ro 12), .ref (ro 13), .ref (ro 14), .ref (ro 15)]))]) [0] rfl) (by omega) (by omega) x1) ok_X6_isView tw_3_230 dX6_append_3 rfl rfl (Nat.le_of_ble_eq_true rfl) ⟨Nat.le_of_ble_eq_true rfl, Nat.le_of_ble_eq_true rfl⟩ ⟨Nat.le_of_ble_eq_true rfl, Nat.le_of_ble_eq_true rfl⟩ (fun _ h => h.elim) (th_kpi (fun locs hS => ?_))
  by_cases q1 : th_ir x1 0 S.1
  · refine th_ti (th_bT q1) ?_
    have uq9 := q1
    obtain ⟨j1, j1a, j1b, ux9⟩ := uq9
    subst ux9
    have zj1 : th_ix (nI j1) = j1 := th_ixN (by omega)
    obtain ⟨hn1, hs1, hf1⟩ := hv.2.1 j1 j1b
    refine th_zne (tgt := 13) hx hb dX6_append_6 (by decide) (by omega) (fun c_1 => ?_) (fun c_1 => by exfalso; omega)
    refine lv_iload_n hx hb dX6_append_13 rfl (lv_at hl 2 rfl) ?_
    refine th_callS hx hb hml hown hts ⟨hK, hN⟩ hl hS (rest := [.ref (ro 0)]) (c_X6_isValue l Y _ x2) ok_X6_isValue tw_3_237 dX6_append_14 rfl rfl (Nat.le_of_ble_eq_true rfl) ⟨Nat.le_of_ble_eq_true rfl, Nat.le_of_ble_eq_true rfl⟩ ⟨Nat.le_of_ble_eq_true rfl, Nat.le_of_ble_eq_true rfl⟩ (fun _ h => h.elim) (th_kpi (fun locs hS => ?_))
    by_cases q2 : th_ir x2 0 65536
    · refine th_ti (th_bT q2) ?_
      have uq9 := q2
      obtain ⟨j2, j2a, j2b, ux9⟩ := uq9
      subst ux9
      have zj2 : th_ix (nI j2) = j2 := th_ixN (by omega)
      refine th_zne (tgt := 24) hx hb dX6_append_17 (by decide) (by omega) (fun c_2 => ?_) (fun c_2 => by exfalso; omega)
      refine lv_aload_n hx hb dX6_append_24 rfl (lv_at hl 0 rfl) ?_
      refine va_get (D := Y.1) (ci := 6) (v := .ref (ro 2)) (C := RX6) (T := TX6) (N := 22) hx hb hts inX6 hown hK hP 0 rfl rfl 2 (by decide) (hts _ tw_3_157) (fun _ h9 => h9) rfl dX6_append_25 ?_
      refine lv_iload_n hx hb dX6_append_28 rfl (lv_at hl 1 rfl) ?_
      refine th_iald hx hb hK hP 2 rfl (j := j1) (by omega) (by omega) dX6_append_29 ?_
      refine th_ti (show siz j1 = nI (S.2.1 j1) from hs1) ?_
      refine lv_bipush (v := nI 100) hx hb dX6_append_30 (by decide) ?_
      refine th_ine (tgt := 39) hx hb dX6_append_32 (by decide) (by omega) (by omega) (fun c_3 => ?_) (fun c_3 => ?_)
      · skip
        have q3 : S.2.1 j1 < 100 := by omega
        refine lv_iconst (v := nI 0) hx hb dX6_append_39 (by decide) ?_
        refine th_callV hx hb hml hown hts ⟨hK, hN⟩ hl hS (hP 0 _ rfl) rfl (rest := []) (c_X6_goesWell l Y _ ro thr stp efr esz etr S.1 S.2.2.2.1 (hP.sub (ws' := [(ro 0, .inr (6, [.int thr, .ref (ro 1), .ref (ro 2), .int (nI S.1), .ref (ro 3), .ref (ro 4), .ref (ro 5), .int (nI S.2.2.2.1), .ref (ro 6), .ref (ro 7), .int stp, .int efr, .int esz, .int etr, .ref (ro 8), .ref (ro 9), .ref (ro 10), .ref (ro 11), .ref (ro 12), .ref (ro 13), .ref (ro 14), .ref (ro 15)]))]) [0] rfl) 0 (by omega)) ok_X6_goesWell tw_4_1 dX6_append_40 rfl rfl (Nat.le_of_ble_eq_true rfl) ⟨Nat.le_of_ble_eq_true rfl, Nat.le_of_ble_eq_true rfl⟩ ⟨Nat.le_of_ble_eq_true rfl, Nat.le_of_ble_eq_true rfl⟩ (th_subL [0] rfl) (th_ki (fun rz9 H locs hp hsm hS => ?_))
        obtain ⟨hrz, hPc⟩ := hp
        have hP : va_P Y.1 vwCl [(ro 0, .inr (6, [.int (nI 0), .ref (ro 1), .ref (ro 2), .int (nI S.1), .ref (ro 3), .ref (ro 4), .ref (ro 5), .int (nI S.2.2.2.1), .ref (ro 6), .ref (ro 7), .int stp, .int efr, .int esz, .int etr, .ref (ro 8), .ref (ro 9), .ref (ro 10), .ref (ro 11), .ref (ro 12), .ref (ro 13), .ref (ro 14), .ref (ro 15)])), (ro 1, .inl (Y.2 0, 300, .inl val)), (ro 2, .inl (Y.2 0, 3, .inl siz)), (ro 3, .inl (Y.2 0, 8, .inl tre)), (ro 4, .inl (Y.2 0, 8, .inl spa)), (ro 5, .inl (Y.2 0, 12, .inl pro)), (ro 6, .inl (Y.2 0, 12, .inl bes)), (ro 7, .inl (Y.2 1, 12, .inl isr)), (ro 8, .inl (Y.2 0, 64, .inl key)), (ro 9, .inl (Y.2 0, 64, .inl lev)), (ro 10, .inl (Y.2 0, 4, .inl kvi)), (ro 11, .inl (Y.2 0, 4, .inl ksz)), (ro 12, .inl (Y.2 0, 4, .inl krt)), (ro 13, .inl (Y.2 1, 4, .inl ala)), (ro 14, .inl (Y.2 0, 4, .inl fol)), (ro 15, .inl (Y.2 0, 4, .inl cts))] _ := (th_join (wr := [(ro 1, .inl (Y.2 0, 300, .inl val)), (ro 2, .inl (Y.2 0, 3, .inl siz)), (ro 3, .inl (Y.2 0, 8, .inl tre)), (ro 4, .inl (Y.2 0, 8, .inl spa)), (ro 5, .inl (Y.2 0, 12, .inl pro)), (ro 6, .inl (Y.2 0, 12, .inl bes)), (ro 7, .inl (Y.2 1, 12, .inl isr)), (ro 8, .inl (Y.2 0, 64, .inl key)), (ro 9, .inl (Y.2 0, 64, .inl lev)), (ro 10, .inl (Y.2 0, 4, .inl kvi)), (ro 11, .inl (Y.2 0, 4, .inl ksz)), (ro 12, .inl (Y.2 0, 4, .inl krt)), (ro 13, .inl (Y.2 1, 4, .inl ala)), (ro 14, .inl (Y.2 0, 4, .inl fol)), (ro 15, .inl (Y.2 0, 4, .inl cts))]) hP hD [1, 2, 3, 4, 5, 6, 7, 8, 9, 10, 11, 12, 13, 14, 15] [0] rfl rfl (by decide) hsm hPc).sub [15, 0, 1, 2, 3, 4, 5, 6, 7, 8, 9, 10, 11, 12, 13, 14] rfl
        have hD : va_D _ [(ro 0, .inr (6, [.int (nI 0), .ref (ro 1), .ref (ro 2), .int (nI S.1), .ref (ro 3), .ref (ro 4), .ref (ro 5), .int (nI S.2.2.2.1), .ref (ro 6), .ref (ro 7), .int stp, .int efr, .int esz, .int etr, .ref (ro 8), .ref (ro 9), .ref (ro 10), .ref (ro 11), .ref (ro 12), .ref (ro 13), .ref (ro 14), .ref (ro 15)])), (ro 1, .inl (Y.2 0, 300, .inl val)), (ro 2, .inl (Y.2 0, 3, .inl siz)), (ro 3, .inl (Y.2 0, 8, .inl tre)), (ro 4, .inl (Y.2 0, 8, .inl spa)), (ro 5, .inl (Y.2 0, 12, .inl pro)), (ro 6, .inl (Y.2 0, 12, .inl bes)), (ro 7, .inl (Y.2 1, 12, .inl isr)), (ro 8, .inl (Y.2 0, 64, .inl key)), (ro 9, .inl (Y.2 0, 64, .inl lev)), (ro 10, .inl (Y.2 0, 4, .inl kvi)), (ro 11, .inl (Y.2 0, 4, .inl ksz)), (ro 12, .inl (Y.2 0, 4, .inl krt)), (ro 13, .inl (Y.2 1, 4, .inl ala)), (ro 14, .inl (Y.2 0, 4, .inl fol)), (ro 15, .inl (Y.2 0, 4, .inl cts))] := th_Dsame hD rfl
        obtain rfl : rz9 = nI 1 := by rw [hrz]; rfl
        refine th_zne (tgt := 48) hx hb dX6_append_43 (by decide) (by omega) (fun c_4 => ?_) (fun c_4 => by exfalso; omega)
        refine lv_aload_n hx hb dX6_append_48 rfl (lv_at hl 0 rfl) ?_
        refine va_get (D := Y.1) (ci := 6) (v := .ref (ro 1)) (C := RX6) (T := TX6) (N := 22) hx hb hts inX6 hown hK hP 0 rfl rfl 1 (by decide) (hts _ tw_3_156) (fun _ h9 => h9) rfl dX6_append_49 ?_
        refine lv_bipush (v := nI 100) hx hb dX6_append_52 (by decide) ?_
        refine lv_iload_n hx hb dX6_append_54 rfl (lv_at hl 1 rfl) ?_
        refine lv_imul hx hb dX6_append_55 ?_
        refine th_ti (pk_mul _ _) ?_
        refine lv_aload_n hx hb dX6_append_56 rfl (lv_at hl 0 rfl) ?_
        refine va_get (D := Y.1) (ci := 6) (v := .ref (ro 2)) (C := RX6) (T := TX6) (N := 22) hx hb hts inX6 hown hK hP 0 rfl rfl 2 (by decide) (hts _ tw_3_157) (fun _ h9 => h9) rfl dX6_append_57 ?_
        refine lv_iload_n hx hb dX6_append_60 rfl (lv_at hl 1 rfl) ?_
        refine th_iald hx hb hK hP 2 rfl (j := j1) (by omega) (by omega) dX6_append_61 ?_
        refine th_ti (show siz j1 = nI (S.2.1 j1) from hs1) ?_
        refine lv_iadd hx hb dX6_append_62 ?_
        refine th_ti (nI_add _ _) ?_
        refine lv_iload_n hx hb dX6_append_63 rfl (lv_at hl 2 rfl) ?_
        refine th_iast hx hb hK hP hD hS 1 rfl (j := ((100 * j1) + (S.2.1 j1))) (by omega) (by omega) dX6_append_64 (fun H locs hP hD hS => ?_)
        have hP : va_P Y.1 vwCl [(ro 0, .inr (6, [.int (nI 0), .ref (ro 1), .ref (ro 2), .int (nI S.1), .ref (ro 3), .ref (ro 4), .ref (ro 5), .int (nI S.2.2.2.1), .ref (ro 6), .ref (ro 7), .int stp, .int efr, .int esz, .int etr, .ref (ro 8), .ref (ro 9), .ref (ro 10), .ref (ro 11), .ref (ro 12), .ref (ro 13), .ref (ro 14), .ref (ro 15)])), (ro 1, .inl (Y.2 0, 300, .inl (upd val ((100 * j1) + (S.2.1 j1)) (nI j2)))), (ro 2, .inl (Y.2 0, 3, .inl siz)), (ro 3, .inl (Y.2 0, 8, .inl tre)), (ro 4, .inl (Y.2 0, 8, .inl spa)), (ro 5, .inl (Y.2 0, 12, .inl pro)), (ro 6, .inl (Y.2 0, 12, .inl bes)), (ro 7, .inl (Y.2 1, 12, .inl isr)), (ro 8, .inl (Y.2 0, 64, .inl key)), (ro 9, .inl (Y.2 0, 64, .inl lev)), (ro 10, .inl (Y.2 0, 4, .inl kvi)), (ro 11, .inl (Y.2 0, 4, .inl ksz)), (ro 12, .inl (Y.2 0, 4, .inl krt)), (ro 13, .inl (Y.2 1, 4, .inl ala)), (ro 14, .inl (Y.2 0, 4, .inl fol)), (ro 15, .inl (Y.2 0, 4, .inl cts))] _ := hP
        have hD : va_D _ [(ro 0, .inr (6, [.int (nI 0), .ref (ro 1), .ref (ro 2), .int (nI S.1), .ref (ro 3), .ref (ro 4), .ref (ro 5), .int (nI S.2.2.2.1), .ref (ro 6), .ref (ro 7), .int stp, .int efr, .int esz, .int etr, .ref (ro 8), .ref (ro 9), .ref (ro 10), .ref (ro 11), .ref (ro 12), .ref (ro 13), .ref (ro 14), .ref (ro 15)])), (ro 1, .inl (Y.2 0, 300, .inl (upd val ((100 * j1) + (S.2.1 j1)) (nI j2)))), (ro 2, .inl (Y.2 0, 3, .inl siz)), (ro 3, .inl (Y.2 0, 8, .inl tre)), (ro 4, .inl (Y.2 0, 8, .inl spa)), (ro 5, .inl (Y.2 0, 12, .inl pro)), (ro 6, .inl (Y.2 0, 12, .inl bes)), (ro 7, .inl (Y.2 1, 12, .inl isr)), (ro 8, .inl (Y.2 0, 64, .inl key)), (ro 9, .inl (Y.2 0, 64, .inl lev)), (ro 10, .inl (Y.2 0, 4, .inl kvi)), (ro 11, .inl (Y.2 0, 4, .inl ksz)), (ro 12, .inl (Y.2 0, 4, .inl krt)), (ro 13, .inl (Y.2 1, 4, .inl ala)), (ro 14, .inl (Y.2 0, 4, .inl fol)), (ro 15, .inl (Y.2 0, 4, .inl cts))] := hD
        refine lv_aload_n hx hb dX6_append_65 rfl (lv_at hl 0 rfl) ?_
        refine va_get (D := Y.1) (ci := 6) (v := .ref (ro 2)) (C := RX6) (T := TX6) (N := 22) hx hb hts inX6 hown hK hP 0 rfl rfl 2 (by decide) (hts _ tw_3_157) (fun _ h9 => h9) rfl dX6_append_66 ?_
        refine lv_iload_n hx hb dX6_append_69 rfl (lv_at hl 1 rfl) ?_
        refine lv_dup2_11 hx hb dX6_append_70 rfl rfl ?_
        refine th_iald hx hb hK hP 2 rfl (j := j1) (by omega) (by omega) dX6_append_71 ?_
        refine th_ti (show siz j1 = nI (S.2.1 j1) from hs1) ?_
        refine lv_iconst (v := nI 1) hx hb dX6_append_72 (by decide) ?_
        refine lv_iadd hx hb dX6_append_73 ?_
        refine th_ti (nI_add _ _) ?_
        refine th_iast hx hb hK hP hD hS 2 rfl (j := j1) (by omega) (by omega) dX6_append_74 (fun H locs hP hD hS => ?_)
        have hP : va_P Y.1 vwCl [(ro 0, .inr (6, [.int (nI 0), .ref (ro 1), .ref (ro 2), .int (nI S.1), .ref (ro 3), .ref (ro 4), .ref (ro 5), .int (nI S.2.2.2.1), .ref (ro 6), .ref (ro 7), .int stp, .int efr, .int esz, .int etr, .ref (ro 8), .ref (ro 9), .ref (ro 10), .ref (ro 11), .ref (ro 12), .ref (ro 13), .ref (ro 14), .ref (ro 15)])), (ro 1, .inl (Y.2 0, 300, .inl (upd val ((100 * j1) + (S.2.1 j1)) (nI j2)))), (ro 2, .inl (Y.2 0, 3, .inl (upd siz j1 (nI ((S.2.1 j1) + 1))))), (ro 3, .inl (Y.2 0, 8, .inl tre)), (ro 4, .inl (Y.2 0, 8, .inl spa)), (ro 5, .inl (Y.2 0, 12, .inl pro)), (ro 6, .inl (Y.2 0, 12, .inl bes)), (ro 7, .inl (Y.2 1, 12, .inl isr)), (ro 8, .inl (Y.2 0, 64, .inl key)), (ro 9, .inl (Y.2 0, 64, .inl lev)), (ro 10, .inl (Y.2 0, 4, .inl kvi)), (ro 11, .inl (Y.2 0, 4, .inl ksz)), (ro 12, .inl (Y.2 0, 4, .inl krt)), (ro 13, .inl (Y.2 1, 4, .inl ala)), (ro 14, .inl (Y.2 0, 4, .inl fol)), (ro 15, .inl (Y.2 0, 4, .inl cts))] _ := hP
        have hD : va_D _ [(ro 0, .inr (6, [.int (nI 0), .ref (ro 1), .ref (ro 2), .int (nI S.1), .ref (ro 3), .ref (ro 4), .ref (ro 5), .int (nI S.2.2.2.1), .ref (ro 6), .ref (ro 7), .int stp, .int efr, .int esz, .int etr, .ref (ro 8), .ref (ro 9), .ref (ro 10), .ref (ro 11), .ref (ro 12), .ref (ro 13), .ref (ro 14), .ref (ro 15)])), (ro 1, .inl (Y.2 0, 300, .inl (upd val ((100 * j1) + (S.2.1 j1)) (nI j2)))), (ro 2, .inl (Y.2 0, 3, .inl (upd siz j1 (nI ((S.2.1 j1) + 1))))), (ro 3, .inl (Y.2 0, 8, .inl tre)), (ro 4, .inl (Y.2 0, 8, .inl spa)), (ro 5, .inl (Y.2 0, 12, .inl pro)), (ro 6, .inl (Y.2 0, 12, .inl bes)), (ro 7, .inl (Y.2 1, 12, .inl isr)), (ro 8, .inl (Y.2 0, 64, .inl key)), (ro 9, .inl (Y.2 0, 64, .inl lev)), (ro 10, .inl (Y.2 0, 4, .inl kvi)), (ro 11, .inl (Y.2 0, 4, .inl ksz)), (ro 12, .inl (Y.2 0, 4, .inl krt)), (ro 13, .inl (Y.2 1, 4, .inl ala)), (ro 14, .inl (Y.2 0, 4, .inl fol)), (ro 15, .inl (Y.2 0, 4, .inl cts))] := hD
        refine lv_aload_n hx hb dX6_append_75 rfl (lv_at hl 0 rfl) ?_
        refine va_get (D := Y.1) (ci := 6) (v := .ref (ro 2)) (C := RX6) (T := TX6) (N := 22) hx hb hts inX6 hown hK hP 0 rfl rfl 2 (by decide) (hts _ tw_3_157) (fun _ h9 => h9) rfl dX6_append_76 ?_
        refine lv_iload_n hx hb dX6_append_79 rfl (lv_at hl 1 rfl) ?_
        refine th_iald hx hb hK hP 2 rfl (j := j1) (by omega) (by omega) dX6_append_80 ?_
        refine th_ti (show (upd siz j1 (nI ((S.2.1 j1) + 1))) j1 = nI (S.2.1 j1 + 1) from pk_us) ?_
        refine lv_iconst (v := nI 1) hx hb dX6_append_81 (by decide) ?_
        refine lv_isub hx hb dX6_append_82 ?_
        refine th_ti (show (nI (S.2.1 j1 + 1)) - (nI 1) = nI (S.2.1 j1) from (pk_sub (by omega)).trans (congrArg nI (by omega))) ?_
        refine th_iret hx hb hr hlk hQ hS dX6_append_83 (Nat.le_of_ble_eq_true rfl) (Nat.le_of_ble_eq_true rfl) ?_
        show th_ro Y ro (_) _ _
        unfold sp_append
        simp only [zj1, zj2]
        rw [th_ifT q1, th_ifT q2, th_ifT q3]
        exact th_roT (rfl) (th_rgI hP (th_RvV hv j1b (by omega) (by omega) pk_us (fun a9 h9 => pk_un h9) (th_apV hf1 q2) (th_updO (by omega))))
        
      have q3 : ¬ (S.2.1 j1 < 100) := by omega
      refine lv_iconst (v := nI 3) hx hb dX6_append_35 (by decide) ?_
      refine lv_goto (tgt := 40) hx hb dX6_append_36 (by decide) ?_
      refine th_callV hx hb hml hown hts ⟨hK, hN⟩ hl hS (hP 0 _ rfl) rfl (rest := []) (c_X6_goesWell l Y _ ro thr stp efr esz etr S.1 S.2.2.2.1 (hP.sub (ws' := [(ro 0, .inr (6, [.int thr, .ref (ro 1), .ref (ro 2), .int (nI S.1), .ref (ro 3), .ref (ro 4), .ref (ro 5), .int (nI S.2.2.2.1), .ref (ro 6), .ref (ro 7), .int stp, .int efr, .int esz, .int etr, .ref (ro 8), .ref (ro 9), .ref (ro 10), .ref (ro 11), .ref (ro 12), .ref (ro 13), .ref (ro 14), .ref (ro 15)]))]) [0] rfl) 3 (by omega)) ok_X6_goesWell tw_4_1 dX6_append_40 rfl rfl (Nat.le_of_ble_eq_true rfl) ⟨Nat.le_of_ble_eq_true rfl, Nat.le_of_ble_eq_true rfl⟩ ⟨Nat.le_of_ble_eq_true rfl, Nat.le_of_ble_eq_true rfl⟩ (th_subL [0] rfl) (th_ki (fun rz9 H locs hp hsm hS => ?_))
      obtain ⟨hrz, hPc⟩ := hp
      have hP : va_P Y.1 vwCl [(ro 0, .inr (6, [.int (nI 3), .ref (ro 1), .ref (ro 2), .int (nI S.1), .ref (ro 3), .ref (ro 4), .ref (ro 5), .int (nI S.2.2.2.1), .ref (ro 6), .ref (ro 7), .int stp, .int efr, .int esz, .int etr, .ref (ro 8), .ref (ro 9), .ref (ro 10), .ref (ro 11), .ref (ro 12), .ref (ro 13), .ref (ro 14), .ref (ro 15)])), (ro 1, .inl (Y.2 0, 300, .inl val)), (ro 2, .inl (Y.2 0, 3, .inl siz)), (ro 3, .inl (Y.2 0, 8, .inl tre)), (ro 4, .inl (Y.2 0, 8, .inl spa)), (ro 5, .inl (Y.2 0, 12, .inl pro)), (ro 6, .inl (Y.2 0, 12, .inl bes)), (ro 7, .inl (Y.2 1, 12, .inl isr)), (ro 8, .inl (Y.2 0, 64, .inl key)), (ro 9, .inl (Y.2 0, 64, .inl lev)), (ro 10, .inl (Y.2 0, 4, .inl kvi)), (ro 11, .inl (Y.2 0, 4, .inl ksz)), (ro 12, .inl (Y.2 0, 4, .inl krt)), (ro 13, .inl (Y.2 1, 4, .inl ala)), (ro 14, .inl (Y.2 0, 4, .inl fol)), (ro 15, .inl (Y.2 0, 4, .inl cts))] _ := (th_join (wr := [(ro 1, .inl (Y.2 0, 300, .inl val)), (ro 2, .inl (Y.2 0, 3, .inl siz)), (ro 3, .inl (Y.2 0, 8, .inl tre)), (ro 4, .inl (Y.2 0, 8, .inl spa)), (ro 5, .inl (Y.2 0, 12, .inl pro)), (ro 6, .inl (Y.2 0, 12, .inl bes)), (ro 7, .inl (Y.2 1, 12, .inl isr)), (ro 8, .inl (Y.2 0, 64, .inl key)), (ro 9, .inl (Y.2 0, 64, .inl lev)), (ro 10, .inl (Y.2 0, 4, .inl kvi)), (ro 11, .inl (Y.2 0, 4, .inl ksz)), (ro 12, .inl (Y.2 0, 4, .inl krt)), (ro 13, .inl (Y.2 1, 4, .inl ala)), (ro 14, .inl (Y.2 0, 4, .inl fol)), (ro 15, .inl (Y.2 0, 4, .inl cts))]) hP hD [1, 2, 3, 4, 5, 6, 7, 8, 9, 10, 11, 12, 13, 14, 15] [0] rfl rfl (by decide) hsm hPc).sub [15, 0, 1, 2, 3, 4, 5, 6, 7, 8, 9, 10, 11, 12, 13, 14] rfl
      have hD : va_D _ [(ro 0, .inr (6, [.int (nI 3), .ref (ro 1), .ref (ro 2), .int (nI S.1), .ref (ro 3), .ref (ro 4), .ref (ro 5), .int (nI S.2.2.2.1), .ref (ro 6), .ref (ro 7), .int stp, .int efr, .int esz, .int etr, .ref (ro 8), .ref (ro 9), .ref (ro 10), .ref (ro 11), .ref (ro 12), .ref (ro 13), .ref (ro 14), .ref (ro 15)])), (ro 1, .inl (Y.2 0, 300, .inl val)), (ro 2, .inl (Y.2 0, 3, .inl siz)), (ro 3, .inl (Y.2 0, 8, .inl tre)), (ro 4, .inl (Y.2 0, 8, .inl spa)), (ro 5, .inl (Y.2 0, 12, .inl pro)), (ro 6, .inl (Y.2 0, 12, .inl bes)), (ro 7, .inl (Y.2 1, 12, .inl isr)), (ro 8, .inl (Y.2 0, 64, .inl key)), (ro 9, .inl (Y.2 0, 64, .inl lev)), (ro 10, .inl (Y.2 0, 4, .inl kvi)), (ro 11, .inl (Y.2 0, 4, .inl ksz)), (ro 12, .inl (Y.2 0, 4, .inl krt)), (ro 13, .inl (Y.2 1, 4, .inl ala)), (ro 14, .inl (Y.2 0, 4, .inl fol)), (ro 15, .inl (Y.2 0, 4, .inl cts))] := th_Dsame hD rfl
      obtain rfl : rz9 = nI 0 := by rw [hrz]; rfl
      refine th_zne (tgt := 48) hx hb dX6_append_43 (by decide) (by omega) (fun c_5 => by exfalso; omega) (fun c_5 => ?_)
      refine lv_iconst (v := nI 0) hx hb dX6_append_46 (by decide) ?_
      refine th_iret hx hb hr hlk hQ hS dX6_append_47 (Nat.le_of_ble_eq_true rfl) (Nat.le_of_ble_eq_true rfl) ?_
      show th_ro Y ro (_) _ _
      unfold sp_append
      simp only [zj1, zj2]
      rw [th_ifT q1, th_ifT q2, th_ifF (fun z9 => q3 z9)]
      exact th_roF (by decide) (th_rgI hP hv)
      
    refine th_ti (th_bF q2) ?_
    refine th_zne (tgt := 24) hx hb dX6_append_17 (by decide) (by omega) (fun c_6 => by exfalso; omega) (fun c_6 => ?_)
    refine lv_iconst (v := nI 2) hx hb dX6_append_20 (by decide) ?_
    refine lv_goto (tgt := 40) hx hb dX6_append_21 (by decide) ?_
    refine th_callV hx hb hml hown hts ⟨hK, hN⟩ hl hS (hP 0 _ rfl) rfl (rest := []) (c_X6_goesWell l Y _ ro thr stp efr esz etr S.1 S.2.2.2.1 (hP.sub (ws' := [(ro 0, .inr (6, [.int thr, .ref (ro 1), .ref (ro 2), .int (nI S.1), .ref (ro 3), .ref (ro 4), .ref (ro 5), .int (nI S.2.2.2.1), .ref (ro 6), .ref (ro 7), .int stp, .int efr, .int esz, .int etr, .ref (ro 8), .ref (ro 9), .ref (ro 10), .ref (ro 11), .ref (ro 12), .ref (ro 13), .ref (ro 14), .ref (ro 15)]))]) [0] rfl) 2 (by omega)) ok_X6_goesWell tw_4_1 dX6_append_40 rfl rfl (Nat.le_of_ble_eq_true rfl) ⟨Nat.le_of_ble_eq_true rfl, Nat.le_of_ble_eq_true rfl⟩ ⟨Nat.le_of_ble_eq_true rfl, Nat.le_of_ble_eq_true rfl⟩ (th_subL [0] rfl) (th_ki (fun rz9 H locs hp hsm hS => ?_))
    obtain ⟨hrz, hPc⟩ := hp
    have hP : va_P Y.1 vwCl [(ro 0, .inr (6, [.int (nI 2), .ref (ro 1), .ref (ro 2), .int (nI S.1), .ref (ro 3), .ref (ro 4), .ref (ro 5), .int (nI S.2.2.2.1), .ref (ro 6), .ref (ro 7), .int stp, .int efr, .int esz, .int etr, .ref (ro 8), .ref (ro 9), .ref (ro 10), .ref (ro 11), .ref (ro 12), .ref (ro 13), .ref (ro 14), .ref (ro 15)])), (ro 1, .inl (Y.2 0, 300, .inl val)), (ro 2, .inl (Y.2 0, 3, .inl siz)), (ro 3, .inl (Y.2 0, 8, .inl tre)), (ro 4, .inl (Y.2 0, 8, .inl spa)), (ro 5, .inl (Y.2 0, 12, .inl pro)), (ro 6, .inl (Y.2 0, 12, .inl bes)), (ro 7, .inl (Y.2 1, 12, .inl isr)), (ro 8, .inl (Y.2 0, 64, .inl key)), (ro 9, .inl (Y.2 0, 64, .inl lev)), (ro 10, .inl (Y.2 0, 4, .inl kvi)), (ro 11, .inl (Y.2 0, 4, .inl ksz)), (ro 12, .inl (Y.2 0, 4, .inl krt)), (ro 13, .inl (Y.2 1, 4, .inl ala)), (ro 14, .inl (Y.2 0, 4, .inl fol)), (ro 15, .inl (Y.2 0, 4, .inl cts))] _ := (th_join (wr := [(ro 1, .inl (Y.2 0, 300, .inl val)), (ro 2, .inl (Y.2 0, 3, .inl siz)), (ro 3, .inl (Y.2 0, 8, .inl tre)), (ro 4, .inl (Y.2 0, 8, .inl spa)), (ro 5, .inl (Y.2 0, 12, .inl pro)), (ro 6, .inl (Y.2 0, 12, .inl bes)), (ro 7, .inl (Y.2 1, 12, .inl isr)), (ro 8, .inl (Y.2 0, 64, .inl key)), (ro 9, .inl (Y.2 0, 64, .inl lev)), (ro 10, .inl (Y.2 0, 4, .inl kvi)), (ro 11, .inl (Y.2 0, 4, .inl ksz)), (ro 12, .inl (Y.2 0, 4, .inl krt)), (ro 13, .inl (Y.2 1, 4, .inl ala)), (ro 14, .inl (Y.2 0, 4, .inl fol)), (ro 15, .inl (Y.2 0, 4, .inl cts))]) hP hD [1, 2, 3, 4, 5, 6, 7, 8, 9, 10, 11, 12, 13, 14, 15] [0] rfl rfl (by decide) hsm hPc).sub [15, 0, 1, 2, 3, 4, 5, 6, 7, 8, 9, 10, 11, 12, 13, 14] rfl
    have hD : va_D _ [(ro 0, .inr (6, [.int (nI 2), .ref (ro 1), .ref (ro 2), .int (nI S.1), .ref (ro 3), .ref (ro 4), .ref (ro 5), .int (nI S.2.2.2.1), .ref (ro 6), .ref (ro 7), .int stp, .int efr, .int esz, .int etr, .ref (ro 8), .ref (ro 9), .ref (ro 10), .ref (ro 11), .ref (ro 12), .ref (ro 13), .ref (ro 14), .ref (ro 15)])), (ro 1, .inl (Y.2 0, 300, .inl val)), (ro 2, .inl (Y.2 0, 3, .inl siz)), (ro 3, .inl (Y.2 0, 8, .inl tre)), (ro 4, .inl (Y.2 0, 8, .inl spa)), (ro 5, .inl (Y.2 0, 12, .inl pro)), (ro 6, .inl (Y.2 0, 12, .inl bes)), (ro 7, .inl (Y.2 1, 12, .inl isr)), (ro 8, .inl (Y.2 0, 64, .inl key)), (ro 9, .inl (Y.2 0, 64, .inl lev)), (ro 10, .inl (Y.2 0, 4, .inl kvi)), (ro 11, .inl (Y.2 0, 4, .inl ksz)), (ro 12, .inl (Y.2 0, 4, .inl krt)), (ro 13, .inl (Y.2 1, 4, .inl ala)), (ro 14, .inl (Y.2 0, 4, .inl fol)), (ro 15, .inl (Y.2 0, 4, .inl cts))] := th_Dsame hD rfl
    obtain rfl : rz9 = nI 0 := by rw [hrz]; rfl
    refine th_zne (tgt := 48) hx hb dX6_append_43 (by decide) (by omega) (fun c_7 => by exfalso; omega) (fun c_7 => ?_)
    refine lv_iconst (v := nI 0) hx hb dX6_append_46 (by decide) ?_
    refine th_iret hx hb hr hlk hQ hS dX6_append_47 (Nat.le_of_ble_eq_true rfl) (Nat.le_of_ble_eq_true rfl) ?_
    show th_ro Y ro (_) _ _
    unfold sp_append
    simp only [zj1]
    rw [th_ifT q1, th_ifF (fun z9 => q2 z9)]
    exact th_roF (by decide) (th_rgI hP hv)
    
  refine th_ti (th_bF q1) ?_
  refine th_zne (tgt := 13) hx hb dX6_append_6 (by decide) (by omega) (fun c_8 => by exfalso; omega) (fun c_8 => ?_)
  refine lv_iconst (v := nI 1) hx hb dX6_append_9 (by decide) ?_
  refine lv_goto (tgt := 40) hx hb dX6_append_10 (by decide) ?_
  refine th_callV hx hb hml hown hts ⟨hK, hN⟩ hl hS (hP 0 _ rfl) rfl (rest := []) (c_X6_goesWell l Y _ ro thr stp efr esz etr S.1 S.2.2.2.1 (hP.sub (ws' := [(ro 0, .inr (6, [.int thr, .ref (ro 1), .ref (ro 2), .int (nI S.1), .ref (ro 3), .ref (ro 4), .ref (ro 5), .int (nI S.2.2.2.1), .ref (ro 6), .ref (ro 7), .int stp, .int efr, .int esz, .int etr, .ref (ro 8), .ref (ro 9), .ref (ro 10), .ref (ro 11), .ref (ro 12), .ref (ro 13), .ref (ro 14), .ref (ro 15)]))]) [0] rfl) 1 (by omega)) ok_X6_goesWell tw_4_1 dX6_append_40 rfl rfl (Nat.le_of_ble_eq_true rfl) ⟨Nat.le_of_ble_eq_true rfl, Nat.le_of_ble_eq_true rfl⟩ ⟨Nat.le_of_ble_eq_true rfl, Nat.le_of_ble_eq_true rfl⟩ (th_subL [0] rfl) (th_ki (fun rz9 H locs hp hsm hS => ?_))
  obtain ⟨hrz, hPc⟩ := hp
  have hP : va_P Y.1 vwCl [(ro 0, .inr (6, [.int (nI 1), .ref (ro 1), .ref (ro 2), .int (nI S.1), .ref (ro 3), .ref (ro 4), .ref (ro 5), .int (nI S.2.2.2.1), .ref (ro 6), .ref (ro 7), .int stp, .int efr, .int esz, .int etr, .ref (ro 8), .ref (ro 9), .ref (ro 10), .ref (ro 11), .ref (ro 12), .ref (ro 13), .ref (ro 14), .ref (ro 15)])), (ro 1, .inl (Y.2 0, 300, .inl val)), (ro 2, .inl (Y.2 0, 3, .inl siz)), (ro 3, .inl (Y.2 0, 8, .inl tre)), (ro 4, .inl (Y.2 0, 8, .inl spa)), (ro 5, .inl (Y.2 0, 12, .inl pro)), (ro 6, .inl (Y.2 0, 12, .inl bes)), (ro 7, .inl (Y.2 1, 12, .inl isr)), (ro 8, .inl (Y.2 0, 64, .inl key)), (ro 9, .inl (Y.2 0, 64, .inl lev)), (ro 10, .inl (Y.2 0, 4, .inl kvi)), (ro 11, .inl (Y.2 0, 4, .inl ksz)), (ro 12, .inl (Y.2 0, 4, .inl krt)), (ro 13, .inl (Y.2 1, 4, .inl ala)), (ro 14, .inl (Y.2 0, 4, .inl fol)), (ro 15, .inl (Y.2 0, 4, .inl cts))] _ := (th_join (wr := [(ro 1, .inl (Y.2 0, 300, .inl val)), (ro 2, .inl (Y.2 0, 3, .inl siz)), (ro 3, .inl (Y.2 0, 8, .inl tre)), (ro 4, .inl (Y.2 0, 8, .inl spa)), (ro 5, .inl (Y.2 0, 12, .inl pro)), (ro 6, .inl (Y.2 0, 12, .inl bes)), (ro 7, .inl (Y.2 1, 12, .inl isr)), (ro 8, .inl (Y.2 0, 64, .inl key)), (ro 9, .inl (Y.2 0, 64, .inl lev)), (ro 10, .inl (Y.2 0, 4, .inl kvi)), (ro 11, .inl (Y.2 0, 4, .inl ksz)), (ro 12, .inl (Y.2 0, 4, .inl krt)), (ro 13, .inl (Y.2 1, 4, .inl ala)), (ro 14, .inl (Y.2 0, 4, .inl fol)), (ro 15, .inl (Y.2 0, 4, .inl cts))]) hP hD [1, 2, 3, 4, 5, 6, 7, 8, 9, 10, 11, 12, 13, 14, 15] [0] rfl rfl (by decide) hsm hPc).sub [15, 0, 1, 2, 3, 4, 5, 6, 7, 8, 9, 10, 11, 12, 13, 14] rfl
  have hD : va_D _ [(ro 0, .inr (6, [.int (nI 1), .ref (ro 1), .ref (ro 2), .int (nI S.1), .ref (ro 3), .ref (ro 4), .ref (ro 5), .int (nI S.2.2.2.1), .ref (ro 6), .ref (ro 7), .int stp, .int efr, .int esz, .int etr, .ref (ro 8), .ref (ro 9), .ref (ro 10), .ref (ro 11), .ref (ro 12), .ref (ro 13), .ref (ro 14), .ref (ro 15)])), (ro 1, .inl (Y.2 0, 300, .inl val)), (ro 2, .inl (Y.2 0, 3, .inl siz)), (ro 3, .inl (Y.2 0, 8, .inl tre)), (ro 4, .inl (Y.2 0, 8, .inl spa)), (ro 5, .inl (Y.2 0, 12, .inl pro)), (ro 6, .inl (Y.2 0, 12, .inl bes)), (ro 7, .inl (Y.2 1, 12, .inl isr)), (ro 8, .inl (Y.2 0, 64, .inl key)), (ro 9, .inl (Y.2 0, 64, .inl lev)), (ro 10, .inl (Y.2 0, 4, .inl kvi)), (ro 11, .inl (Y.2 0, 4, .inl ksz)), (ro 12, .inl (Y.2 0, 4, .inl krt)), (ro 13, .inl (Y.2 1, 4, .inl ala)), (ro 14, .inl (Y.2 0, 4, .inl fol)), (ro 15, .inl (Y.2 0, 4, .inl cts))] := th_Dsame hD rfl
  obtain rfl : rz9 = nI 0 := by rw [hrz]; rfl
  refine th_zne (tgt := 48) hx hb dX6_append_43 (by decide) (by omega) (fun c_9 => by exfalso; omega) (fun c_9 => ?_)
  refine lv_iconst (v := nI 0) hx hb dX6_append_46 (by decide) ?_
  refine th_iret hx hb hr hlk hQ hS dX6_append_47 (Nat.le_of_ble_eq_true rfl) (Nat.le_of_ble_eq_true rfl) ?_
  show th_ro Y ro (_) _ _
  unfold sp_append
  rw [th_ifF (fun z9 => q1 z9)]
  exact th_roF (by decide) (th_rgI hP hv)
  

set_option maxRecDepth 100000 in
set_option maxHeartbeats 800000 in
theorem c_X6_put (l : Launch) (Y : th_Y) (H0 : Heap) (ro : Nat → Nat) (hJ : th_gJ ro 16) (S : th_S) (thr stp efr esz etr : Int32) (val siz tre spa pro bes isr key lev kvi ksz krt ala fol cts : Nat → Int32) (hP : va_P Y.1 vwCl [(ro 0, .inr (6, [.int thr, .ref (ro 1), .ref (ro 2), .int (nI S.1), .ref (ro 3), .ref (ro 4), .ref (ro 5), .int (nI S.2.2.2.1), .ref (ro 6), .ref (ro 7), .int stp, .int efr, .int esz, .int etr, .ref (ro 8), .ref (ro 9), .ref (ro 10), .ref (ro 11), .ref (ro 12), .ref (ro 13), .ref (ro 14), .ref (ro 15)])), (ro 1, .inl (Y.2 0, 300, .inl val)), (ro 2, .inl (Y.2 0, 3, .inl siz)), (ro 3, .inl (Y.2 0, 8, .inl tre)), (ro 4, .inl (Y.2 0, 8, .inl spa)), (ro 5, .inl (Y.2 0, 12, .inl pro)), (ro 6, .inl (Y.2 0, 12, .inl bes)), (ro 7, .inl (Y.2 1, 12, .inl isr)), (ro 8, .inl (Y.2 0, 64, .inl key)), (ro 9, .inl (Y.2 0, 64, .inl lev)), (ro 10, .inl (Y.2 0, 4, .inl kvi)), (ro 11, .inl (Y.2 0, 4, .inl ksz)), (ro 12, .inl (Y.2 0, 4, .inl krt)), (ro 13, .inl (Y.2 1, 4, .inl ala)), (ro 14, .inl (Y.2 0, 4, .inl fol)), (ro 15, .inl (Y.2 0, 4, .inl cts))] H0) (hv : th_RIv S val siz pro key kvi ksz krt ala fol cts) (x1 x2 : Int32) : th_M l Y yX6_put cX6_put 4 (some .int) (th_rm 6 0 0) [.ref (ro 0), .int x1, .int x2] H0 (fun z => z ∈ [ro 0, ro 1, ro 2, ro 3, ro 4, ro 5, ro 6, ro 7, ro 8, ro 9, ro 10, ro 11, ro 12, ro 13, ro 14, ro 15]) (th_ro Y ro (sp_put S x1 x2)) := by
  refine th_M.intro (by decide) (Nat.le_of_ble_eq_true rfl) ?_
  intro p e s m args below meth c ls Q hQ C hKN hl hS
  obtain ⟨hx, hb, hr, hml, hown, hts, hlk, hnm⟩ := C
  obtain ⟨hK, hN⟩ := hKN
  have hown : s.vm.findClass RX6 = some m.cls := hown
  have hl : lv_has ls 4 [(0, .ref (ro 0)), (1, .int x1), (2, .int x2)] := hl
  have hD : va_D (fun z => z ∈ [ro 0, ro 1, ro 2, ro 3, ro 4, ro 5, ro 6, ro 7, ro 8, ro 9, ro 10, ro 11, ro 12, ro 13, ro 14, ro 15]) [(ro 0, .inr (6, [.int thr, .ref (ro 1), .ref (ro 2), .int (nI S.1), .ref (ro 3), .ref (ro 4), .ref (ro 5), .int (nI S.2.2.2.1), .ref (ro 6), .ref (ro 7), .int stp, .int efr, .int esz, .int etr, .ref (ro 8), .ref (ro 9), .ref (ro 10), .ref (ro 11), .ref (ro 12), .ref (ro 13), .ref (ro 14), .ref (ro 15)])), (ro 1, .inl (Y.2 0, 300, .inl val)), (ro 2, .inl (Y.2 0, 3, .inl siz)), (ro 3, .inl (Y.2 0, 8, .inl tre)), (ro 4, .inl (Y.2 0, 8, .inl spa)), (ro 5, .inl (Y.2 0, 12, .inl pro)), (ro 6, .inl (Y.2 0, 12, .inl bes)), (ro 7, .inl (Y.2 1, 12, .inl isr)), (ro 8, .inl (Y.2 0, 64, .inl key)), (ro 9, .inl (Y.2 0, 64, .inl lev)), (ro 10, .inl (Y.2 0, 4, .inl kvi)), (ro 11, .inl (Y.2 0, 4, .inl ksz)), (ro 12, .inl (Y.2 0, 4, .inl krt)), (ro 13, .inl (Y.2 1, 4, .inl ala)), (ro 14, .inl (Y.2 0, 4, .inl fol)), (ro 15, .inl (Y.2 0, 4, .inl cts))] := th_mem (th_gD hJ [0, 1, 2, 3, 4, 5, 6, 7, 8, 9, 10, 11, 12, 13, 14, 15] (fun k9 hk9 => by simp only [List.mem_cons, List.not_mem_nil, or_false] at hk9; omega) th_nd16 rfl)
  have hv1 := hv.1
  have hv12 := hv.2.2.1
  refine lv_aload_n hx hb dX6_put_0 rfl (lv_at hl 0 rfl) ?_
  refine lv_iload_n hx hb dX6_put_1 rfl (lv_at hl 1 rfl) ?_
  refine th_callS hx hb hml hown hts ⟨hK, hN⟩ hl hS (rest := [.ref (ro 0)]) (c_X6_isKey l Y _ x1) ok_X6_isKey tw_4_85 dX6_put_2 rfl rfl (Nat.le_of_ble_eq_true rfl) ⟨Nat.le_of_ble_eq_true rfl, Nat.le_of_ble_eq_true rfl⟩ ⟨Nat.le_of_ble_eq_true rfl, Nat.le_of_ble_eq_true rfl⟩ (fun _ h => h.elim) (th_kpi (fun locs hS => ?_))
  by_cases q1 : th_ir x1 0 64
  · refine th_ti (th_bT q1) ?_
    have uq9 := q1
    obtain ⟨j1, j1a, j1b, ux9⟩ := uq9
    subst ux9
    have zj1 : th_ix (nI j1) = j1 := th_ixN (by omega)
    refine th_zeq (tgt := 19) hx hb dX6_put_5 (by decide) (by omega) (fun c_1 => by exfalso; omega) (fun c_1 => ?_)
    refine lv_iload_n hx hb dX6_put_8 rfl (lv_at hl 2 rfl) ?_
    refine th_callS hx hb hml hown hts ⟨hK, hN⟩ hl hS (rest := [.ref (ro 0)]) (c_X6_isValue l Y _ x2) ok_X6_isValue tw_3_237 dX6_put_9 rfl rfl (Nat.le_of_ble_eq_true rfl) ⟨Nat.le_of_ble_eq_true rfl, Nat.le_of_ble_eq_true rfl⟩ ⟨Nat.le_of_ble_eq_true rfl, Nat.le_of_ble_eq_true rfl⟩ (fun _ h => h.elim) (th_kpi (fun locs hS => ?_))
    by_cases q2 : th_ir x2 0 65536
    · refine th_ti (th_bT q2) ?_
      have uq9 := q2
      obtain ⟨j2, j2a, j2b, ux9⟩ := uq9
      subst ux9
      have zj2 : th_ix (nI j2) = j2 := th_ixN (by omega)
      refine th_zeq (tgt := 19) hx hb dX6_put_12 (by decide) (by omega) (fun c_2 => by exfalso; omega) (fun c_2 => ?_)
      refine lv_iconst (v := nI 0) hx hb dX6_put_15 (by decide) ?_
      refine lv_goto (tgt := 20) hx hb dX6_put_16 (by decide) ?_
      refine th_callV hx hb hml hown hts ⟨hK, hN⟩ hl hS (hP 0 _ rfl) rfl (rest := []) (c_X6_goesWell l Y _ ro thr stp efr esz etr S.1 S.2.2.2.1 (hP.sub (ws' := [(ro 0, .inr (6, [.int thr, .ref (ro 1), .ref (ro 2), .int (nI S.1), .ref (ro 3), .ref (ro 4), .ref (ro 5), .int (nI S.2.2.2.1), .ref (ro 6), .ref (ro 7), .int stp, .int efr, .int esz, .int etr, .ref (ro 8), .ref (ro 9), .ref (ro 10), .ref (ro 11), .ref (ro 12), .ref (ro 13), .ref (ro 14), .ref (ro 15)]))]) [0] rfl) 0 (by omega)) ok_X6_goesWell tw_4_1 dX6_put_20 rfl rfl (Nat.le_of_ble_eq_true rfl) ⟨Nat.le_of_ble_eq_true rfl, Nat.le_of_ble_eq_true rfl⟩ ⟨Nat.le_of_ble_eq_true rfl, Nat.le_of_ble_eq_true rfl⟩ (th_subL [0] rfl) (th_ki (fun rz9 H locs hp hsm hS => ?_))
      obtain ⟨hrz, hPc⟩ := hp
      have hP : va_P Y.1 vwCl [(ro 0, .inr (6, [.int (nI 0), .ref (ro 1), .ref (ro 2), .int (nI S.1), .ref (ro 3), .ref (ro 4), .ref (ro 5), .int (nI S.2.2.2.1), .ref (ro 6), .ref (ro 7), .int stp, .int efr, .int esz, .int etr, .ref (ro 8), .ref (ro 9), .ref (ro 10), .ref (ro 11), .ref (ro 12), .ref (ro 13), .ref (ro 14), .ref (ro 15)])), (ro 1, .inl (Y.2 0, 300, .inl val)), (ro 2, .inl (Y.2 0, 3, .inl siz)), (ro 3, .inl (Y.2 0, 8, .inl tre)), (ro 4, .inl (Y.2 0, 8, .inl spa)), (ro 5, .inl (Y.2 0, 12, .inl pro)), (ro 6, .inl (Y.2 0, 12, .inl bes)), (ro 7, .inl (Y.2 1, 12, .inl isr)), (ro 8, .inl (Y.2 0, 64, .inl key)), (ro 9, .inl (Y.2 0, 64, .inl lev)), (ro 10, .inl (Y.2 0, 4, .inl kvi)), (ro 11, .inl (Y.2 0, 4, .inl ksz)), (ro 12, .inl (Y.2 0, 4, .inl krt)), (ro 13, .inl (Y.2 1, 4, .inl ala)), (ro 14, .inl (Y.2 0, 4, .inl fol)), (ro 15, .inl (Y.2 0, 4, .inl cts))] _ := (th_join (wr := [(ro 1, .inl (Y.2 0, 300, .inl val)), (ro 2, .inl (Y.2 0, 3, .inl siz)), (ro 3, .inl (Y.2 0, 8, .inl tre)), (ro 4, .inl (Y.2 0, 8, .inl spa)), (ro 5, .inl (Y.2 0, 12, .inl pro)), (ro 6, .inl (Y.2 0, 12, .inl bes)), (ro 7, .inl (Y.2 1, 12, .inl isr)), (ro 8, .inl (Y.2 0, 64, .inl key)), (ro 9, .inl (Y.2 0, 64, .inl lev)), (ro 10, .inl (Y.2 0, 4, .inl kvi)), (ro 11, .inl (Y.2 0, 4, .inl ksz)), (ro 12, .inl (Y.2 0, 4, .inl krt)), (ro 13, .inl (Y.2 1, 4, .inl ala)), (ro 14, .inl (Y.2 0, 4, .inl fol)), (ro 15, .inl (Y.2 0, 4, .inl cts))]) hP hD [1, 2, 3, 4, 5, 6, 7, 8, 9, 10, 11, 12, 13, 14, 15] [0] rfl rfl (by decide) hsm hPc).sub [15, 0, 1, 2, 3, 4, 5, 6, 7, 8, 9, 10, 11, 12, 13, 14] rfl
      have hD : va_D _ [(ro 0, .inr (6, [.int (nI 0), .ref (ro 1), .ref (ro 2), .int (nI S.1), .ref (ro 3), .ref (ro 4), .ref (ro 5), .int (nI S.2.2.2.1), .ref (ro 6), .ref (ro 7), .int stp, .int efr, .int esz, .int etr, .ref (ro 8), .ref (ro 9), .ref (ro 10), .ref (ro 11), .ref (ro 12), .ref (ro 13), .ref (ro 14), .ref (ro 15)])), (ro 1, .inl (Y.2 0, 300, .inl val)), (ro 2, .inl (Y.2 0, 3, .inl siz)), (ro 3, .inl (Y.2 0, 8, .inl tre)), (ro 4, .inl (Y.2 0, 8, .inl spa)), (ro 5, .inl (Y.2 0, 12, .inl pro)), (ro 6, .inl (Y.2 0, 12, .inl bes)), (ro 7, .inl (Y.2 1, 12, .inl isr)), (ro 8, .inl (Y.2 0, 64, .inl key)), (ro 9, .inl (Y.2 0, 64, .inl lev)), (ro 10, .inl (Y.2 0, 4, .inl kvi)), (ro 11, .inl (Y.2 0, 4, .inl ksz)), (ro 12, .inl (Y.2 0, 4, .inl krt)), (ro 13, .inl (Y.2 1, 4, .inl ala)), (ro 14, .inl (Y.2 0, 4, .inl fol)), (ro 15, .inl (Y.2 0, 4, .inl cts))] := th_Dsame hD rfl
      obtain rfl : rz9 = nI 1 := by rw [hrz]; rfl
      refine th_zne (tgt := 28) hx hb dX6_put_23 (by decide) (by omega) (fun c_3 => ?_) (fun c_3 => by exfalso; omega)
      refine lv_aload_n hx hb dX6_put_28 rfl (lv_at hl 0 rfl) ?_
      refine va_get (D := Y.1) (ci := 6) (v := .ref (ro 8)) (C := RX6) (T := TX6) (N := 22) hx hb hts inX6 hown hK hP 0 rfl rfl 14 (by decide) (hts _ tw_3_169) (fun _ h9 => h9) rfl dX6_put_29 ?_
      refine lv_iload_n hx hb dX6_put_32 rfl (lv_at hl 1 rfl) ?_
      refine th_iald hx hb hK hP 8 rfl (j := j1) (by omega) (by omega) dX6_put_33 ?_
      refine lv_istore_n (lv' := [(3, .int (key j1)), (0, .ref (ro 0)), (1, .int (nI j1)), (2, .int (nI j2))]) hx hb dX6_put_34 rfl hl (by decide) rfl (fun ls hl => ?_)
      refine lv_aload_n hx hb dX6_put_35 rfl (lv_at hl 1 rfl) ?_
      refine va_get (D := Y.1) (ci := 6) (v := .ref (ro 8)) (C := RX6) (T := TX6) (N := 22) hx hb hts inX6 hown hK hP 0 rfl rfl 14 (by decide) (hts _ tw_3_169) (fun _ h9 => h9) rfl dX6_put_36 ?_
      refine lv_iload_n hx hb dX6_put_39 rfl (lv_at hl 2 rfl) ?_
      refine lv_iload_n hx hb dX6_put_40 rfl (lv_at hl 3 rfl) ?_
      refine th_iast hx hb hK hP hD hS 8 rfl (j := j1) (by omega) (by omega) dX6_put_41 (fun H locs hP hD hS => ?_)
      have hP : va_P Y.1 vwCl [(ro 0, .inr (6, [.int (nI 0), .ref (ro 1), .ref (ro 2), .int (nI S.1), .ref (ro 3), .ref (ro 4), .ref (ro 5), .int (nI S.2.2.2.1), .ref (ro 6), .ref (ro 7), .int stp, .int efr, .int esz, .int etr, .ref (ro 8), .ref (ro 9), .ref (ro 10), .ref (ro 11), .ref (ro 12), .ref (ro 13), .ref (ro 14), .ref (ro 15)])), (ro 1, .inl (Y.2 0, 300, .inl val)), (ro 2, .inl (Y.2 0, 3, .inl siz)), (ro 3, .inl (Y.2 0, 8, .inl tre)), (ro 4, .inl (Y.2 0, 8, .inl spa)), (ro 5, .inl (Y.2 0, 12, .inl pro)), (ro 6, .inl (Y.2 0, 12, .inl bes)), (ro 7, .inl (Y.2 1, 12, .inl isr)), (ro 8, .inl (Y.2 0, 64, .inl (upd key j1 (nI j2)))), (ro 9, .inl (Y.2 0, 64, .inl lev)), (ro 10, .inl (Y.2 0, 4, .inl kvi)), (ro 11, .inl (Y.2 0, 4, .inl ksz)), (ro 12, .inl (Y.2 0, 4, .inl krt)), (ro 13, .inl (Y.2 1, 4, .inl ala)), (ro 14, .inl (Y.2 0, 4, .inl fol)), (ro 15, .inl (Y.2 0, 4, .inl cts))] _ := hP
      have hD : va_D _ [(ro 0, .inr (6, [.int (nI 0), .ref (ro 1), .ref (ro 2), .int (nI S.1), .ref (ro 3), .ref (ro 4), .ref (ro 5), .int (nI S.2.2.2.1), .ref (ro 6), .ref (ro 7), .int stp, .int efr, .int esz, .int etr, .ref (ro 8), .ref (ro 9), .ref (ro 10), .ref (ro 11), .ref (ro 12), .ref (ro 13), .ref (ro 14), .ref (ro 15)])), (ro 1, .inl (Y.2 0, 300, .inl val)), (ro 2, .inl (Y.2 0, 3, .inl siz)), (ro 3, .inl (Y.2 0, 8, .inl tre)), (ro 4, .inl (Y.2 0, 8, .inl spa)), (ro 5, .inl (Y.2 0, 12, .inl pro)), (ro 6, .inl (Y.2 0, 12, .inl bes)), (ro 7, .inl (Y.2 1, 12, .inl isr)), (ro 8, .inl (Y.2 0, 64, .inl (upd key j1 (nI j2)))), (ro 9, .inl (Y.2 0, 64, .inl lev)), (ro 10, .inl (Y.2 0, 4, .inl kvi)), (ro 11, .inl (Y.2 0, 4, .inl ksz)), (ro 12, .inl (Y.2 0, 4, .inl krt)), (ro 13, .inl (Y.2 1, 4, .inl ala)), (ro 14, .inl (Y.2 0, 4, .inl fol)), (ro 15, .inl (Y.2 0, 4, .inl cts))] := hD
      refine lv_iload_n hx hb dX6_put_42 rfl (lv_at hl 0 rfl) ?_
      refine th_iret hx hb hr hlk hQ hS dX6_put_43 (Nat.le_of_ble_eq_true rfl) (Nat.le_of_ble_eq_true rfl) ?_
      show th_ro Y ro (_) _ _
      unfold sp_put
      simp only [zj1, zj2]
      rw [th_ifT ⟨q1, q2⟩]
      exact th_roT (hv.2.2.2.2.1 j1 j1b) (th_rgI hP (th_RvM hv (th_updE (fun j9 hj9 _ => hv.2.2.2.2.1 j9 hj9))))
      
    refine th_ti (th_bF q2) ?_
    refine th_zeq (tgt := 19) hx hb dX6_put_12 (by decide) (by omega) (fun c_4 => ?_) (fun c_4 => by exfalso; omega)
    refine lv_iconst (v := nI 1) hx hb dX6_put_19 (by decide) ?_
    refine th_callV hx hb hml hown hts ⟨hK, hN⟩ hl hS (hP 0 _ rfl) rfl (rest := []) (c_X6_goesWell l Y _ ro thr stp efr esz etr S.1 S.2.2.2.1 (hP.sub (ws' := [(ro 0, .inr (6, [.int thr, .ref (ro 1), .ref (ro 2), .int (nI S.1), .ref (ro 3), .ref (ro 4), .ref (ro 5), .int (nI S.2.2.2.1), .ref (ro 6), .ref (ro 7), .int stp, .int efr, .int esz, .int etr, .ref (ro 8), .ref (ro 9), .ref (ro 10), .ref (ro 11), .ref (ro 12), .ref (ro 13), .ref (ro 14), .ref (ro 15)]))]) [0] rfl) 1 (by omega)) ok_X6_goesWell tw_4_1 dX6_put_20 rfl rfl (Nat.le_of_ble_eq_true rfl) ⟨Nat.le_of_ble_eq_true rfl, Nat.le_of_ble_eq_true rfl⟩ ⟨Nat.le_of_ble_eq_true rfl, Nat.le_of_ble_eq_true rfl⟩ (th_subL [0] rfl) (th_ki (fun rz9 H locs hp hsm hS => ?_))
    obtain ⟨hrz, hPc⟩ := hp
    have hP : va_P Y.1 vwCl [(ro 0, .inr (6, [.int (nI 1), .ref (ro 1), .ref (ro 2), .int (nI S.1), .ref (ro 3), .ref (ro 4), .ref (ro 5), .int (nI S.2.2.2.1), .ref (ro 6), .ref (ro 7), .int stp, .int efr, .int esz, .int etr, .ref (ro 8), .ref (ro 9), .ref (ro 10), .ref (ro 11), .ref (ro 12), .ref (ro 13), .ref (ro 14), .ref (ro 15)])), (ro 1, .inl (Y.2 0, 300, .inl val)), (ro 2, .inl (Y.2 0, 3, .inl siz)), (ro 3, .inl (Y.2 0, 8, .inl tre)), (ro 4, .inl (Y.2 0, 8, .inl spa)), (ro 5, .inl (Y.2 0, 12, .inl pro)), (ro 6, .inl (Y.2 0, 12, .inl bes)), (ro 7, .inl (Y.2 1, 12, .inl isr)), (ro 8, .inl (Y.2 0, 64, .inl key)), (ro 9, .inl (Y.2 0, 64, .inl lev)), (ro 10, .inl (Y.2 0, 4, .inl kvi)), (ro 11, .inl (Y.2 0, 4, .inl ksz)), (ro 12, .inl (Y.2 0, 4, .inl krt)), (ro 13, .inl (Y.2 1, 4, .inl ala)), (ro 14, .inl (Y.2 0, 4, .inl fol)), (ro 15, .inl (Y.2 0, 4, .inl cts))] _ := (th_join (wr := [(ro 1, .inl (Y.2 0, 300, .inl val)), (ro 2, .inl (Y.2 0, 3, .inl siz)), (ro 3, .inl (Y.2 0, 8, .inl tre)), (ro 4, .inl (Y.2 0, 8, .inl spa)), (ro 5, .inl (Y.2 0, 12, .inl pro)), (ro 6, .inl (Y.2 0, 12, .inl bes)), (ro 7, .inl (Y.2 1, 12, .inl isr)), (ro 8, .inl (Y.2 0, 64, .inl key)), (ro 9, .inl (Y.2 0, 64, .inl lev)), (ro 10, .inl (Y.2 0, 4, .inl kvi)), (ro 11, .inl (Y.2 0, 4, .inl ksz)), (ro 12, .inl (Y.2 0, 4, .inl krt)), (ro 13, .inl (Y.2 1, 4, .inl ala)), (ro 14, .inl (Y.2 0, 4, .inl fol)), (ro 15, .inl (Y.2 0, 4, .inl cts))]) hP hD [1, 2, 3, 4, 5, 6, 7, 8, 9, 10, 11, 12, 13, 14, 15] [0] rfl rfl (by decide) hsm hPc).sub [15, 0, 1, 2, 3, 4, 5, 6, 7, 8, 9, 10, 11, 12, 13, 14] rfl
    have hD : va_D _ [(ro 0, .inr (6, [.int (nI 1), .ref (ro 1), .ref (ro 2), .int (nI S.1), .ref (ro 3), .ref (ro 4), .ref (ro 5), .int (nI S.2.2.2.1), .ref (ro 6), .ref (ro 7), .int stp, .int efr, .int esz, .int etr, .ref (ro 8), .ref (ro 9), .ref (ro 10), .ref (ro 11), .ref (ro 12), .ref (ro 13), .ref (ro 14), .ref (ro 15)])), (ro 1, .inl (Y.2 0, 300, .inl val)), (ro 2, .inl (Y.2 0, 3, .inl siz)), (ro 3, .inl (Y.2 0, 8, .inl tre)), (ro 4, .inl (Y.2 0, 8, .inl spa)), (ro 5, .inl (Y.2 0, 12, .inl pro)), (ro 6, .inl (Y.2 0, 12, .inl bes)), (ro 7, .inl (Y.2 1, 12, .inl isr)), (ro 8, .inl (Y.2 0, 64, .inl key)), (ro 9, .inl (Y.2 0, 64, .inl lev)), (ro 10, .inl (Y.2 0, 4, .inl kvi)), (ro 11, .inl (Y.2 0, 4, .inl ksz)), (ro 12, .inl (Y.2 0, 4, .inl krt)), (ro 13, .inl (Y.2 1, 4, .inl ala)), (ro 14, .inl (Y.2 0, 4, .inl fol)), (ro 15, .inl (Y.2 0, 4, .inl cts))] := th_Dsame hD rfl
    obtain rfl : rz9 = nI 0 := by rw [hrz]; rfl
    refine th_zne (tgt := 28) hx hb dX6_put_23 (by decide) (by omega) (fun c_5 => by exfalso; omega) (fun c_5 => ?_)
    refine lv_iconst (v := nI 0) hx hb dX6_put_26 (by decide) ?_
    refine th_iret hx hb hr hlk hQ hS dX6_put_27 (Nat.le_of_ble_eq_true rfl) (Nat.le_of_ble_eq_true rfl) ?_
    show th_ro Y ro (_) _ _
    unfold sp_put
    simp only [zj1]
    rw [th_ifF (fun z9 => q2 z9.2)]
    exact th_roF (by decide) (th_rgI hP hv)
    
  refine th_ti (th_bF q1) ?_
  refine th_zeq (tgt := 19) hx hb dX6_put_5 (by decide) (by omega) (fun c_6 => ?_) (fun c_6 => by exfalso; omega)
  refine lv_iconst (v := nI 1) hx hb dX6_put_19 (by decide) ?_
  refine th_callV hx hb hml hown hts ⟨hK, hN⟩ hl hS (hP 0 _ rfl) rfl (rest := []) (c_X6_goesWell l Y _ ro thr stp efr esz etr S.1 S.2.2.2.1 (hP.sub (ws' := [(ro 0, .inr (6, [.int thr, .ref (ro 1), .ref (ro 2), .int (nI S.1), .ref (ro 3), .ref (ro 4), .ref (ro 5), .int (nI S.2.2.2.1), .ref (ro 6), .ref (ro 7), .int stp, .int efr, .int esz, .int etr, .ref (ro 8), .ref (ro 9), .ref (ro 10), .ref (ro 11), .ref (ro 12), .ref (ro 13), .ref (ro 14), .ref (ro 15)]))]) [0] rfl) 1 (by omega)) ok_X6_goesWell tw_4_1 dX6_put_20 rfl rfl (Nat.le_of_ble_eq_true rfl) ⟨Nat.le_of_ble_eq_true rfl, Nat.le_of_ble_eq_true rfl⟩ ⟨Nat.le_of_ble_eq_true rfl, Nat.le_of_ble_eq_true rfl⟩ (th_subL [0] rfl) (th_ki (fun rz9 H locs hp hsm hS => ?_))
  obtain ⟨hrz, hPc⟩ := hp
  have hP : va_P Y.1 vwCl [(ro 0, .inr (6, [.int (nI 1), .ref (ro 1), .ref (ro 2), .int (nI S.1), .ref (ro 3), .ref (ro 4), .ref (ro 5), .int (nI S.2.2.2.1), .ref (ro 6), .ref (ro 7), .int stp, .int efr, .int esz, .int etr, .ref (ro 8), .ref (ro 9), .ref (ro 10), .ref (ro 11), .ref (ro 12), .ref (ro 13), .ref (ro 14), .ref (ro 15)])), (ro 1, .inl (Y.2 0, 300, .inl val)), (ro 2, .inl (Y.2 0, 3, .inl siz)), (ro 3, .inl (Y.2 0, 8, .inl tre)), (ro 4, .inl (Y.2 0, 8, .inl spa)), (ro 5, .inl (Y.2 0, 12, .inl pro)), (ro 6, .inl (Y.2 0, 12, .inl bes)), (ro 7, .inl (Y.2 1, 12, .inl isr)), (ro 8, .inl (Y.2 0, 64, .inl key)), (ro 9, .inl (Y.2 0, 64, .inl lev)), (ro 10, .inl (Y.2 0, 4, .inl kvi)), (ro 11, .inl (Y.2 0, 4, .inl ksz)), (ro 12, .inl (Y.2 0, 4, .inl krt)), (ro 13, .inl (Y.2 1, 4, .inl ala)), (ro 14, .inl (Y.2 0, 4, .inl fol)), (ro 15, .inl (Y.2 0, 4, .inl cts))] _ := (th_join (wr := [(ro 1, .inl (Y.2 0, 300, .inl val)), (ro 2, .inl (Y.2 0, 3, .inl siz)), (ro 3, .inl (Y.2 0, 8, .inl tre)), (ro 4, .inl (Y.2 0, 8, .inl spa)), (ro 5, .inl (Y.2 0, 12, .inl pro)), (ro 6, .inl (Y.2 0, 12, .inl bes)), (ro 7, .inl (Y.2 1, 12, .inl isr)), (ro 8, .inl (Y.2 0, 64, .inl key)), (ro 9, .inl (Y.2 0, 64, .inl lev)), (ro 10, .inl (Y.2 0, 4, .inl kvi)), (ro 11, .inl (Y.2 0, 4, .inl ksz)), (ro 12, .inl (Y.2 0, 4, .inl krt)), (ro 13, .inl (Y.2 1, 4, .inl ala)), (ro 14, .inl (Y.2 0, 4, .inl fol)), (ro 15, .inl (Y.2 0, 4, .inl cts))]) hP hD [1, 2, 3, 4, 5, 6, 7, 8, 9, 10, 11, 12, 13, 14, 15] [0] rfl rfl (by decide) hsm hPc).sub [15, 0, 1, 2, 3, 4, 5, 6, 7, 8, 9, 10, 11, 12, 13, 14] rfl
  have hD : va_D _ [(ro 0, .inr (6, [.int (nI 1), .ref (ro 1), .ref (ro 2), .int (nI S.1), .ref (ro 3), .ref (ro 4), .ref (ro 5), .int (nI S.2.2.2.1), .ref (ro 6), .ref (ro 7), .int stp, .int efr, .int esz, .int etr, .ref (ro 8), .ref (ro 9), .ref (ro 10), .ref (ro 11), .ref (ro 12), .ref (ro 13), .ref (ro 14), .ref (ro 15)])), (ro 1, .inl (Y.2 0, 300, .inl val)), (ro 2, .inl (Y.2 0, 3, .inl siz)), (ro 3, .inl (Y.2 0, 8, .inl tre)), (ro 4, .inl (Y.2 0, 8, .inl spa)), (ro 5, .inl (Y.2 0, 12, .inl pro)), (ro 6, .inl (Y.2 0, 12, .inl bes)), (ro 7, .inl (Y.2 1, 12, .inl isr)), (ro 8, .inl (Y.2 0, 64, .inl key)), (ro 9, .inl (Y.2 0, 64, .inl lev)), (ro 10, .inl (Y.2 0, 4, .inl kvi)), (ro 11, .inl (Y.2 0, 4, .inl ksz)), (ro 12, .inl (Y.2 0, 4, .inl krt)), (ro 13, .inl (Y.2 1, 4, .inl ala)), (ro 14, .inl (Y.2 0, 4, .inl fol)), (ro 15, .inl (Y.2 0, 4, .inl cts))] := th_Dsame hD rfl
  obtain rfl : rz9 = nI 0 := by rw [hrz]; rfl
  refine th_zne (tgt := 28) hx hb dX6_put_23 (by decide) (by omega) (fun c_7 => by exfalso; omega) (fun c_7 => ?_)
  refine lv_iconst (v := nI 0) hx hb dX6_put_26 (by decide) ?_
  refine th_iret hx hb hr hlk hQ hS dX6_put_27 (Nat.le_of_ble_eq_true rfl) (Nat.le_of_ble_eq_true rfl) ?_
  show th_ro Y ro (_) _ _
  unfold sp_put
  rw [th_ifF (fun z9 => q1 z9.1)]
  exact th_roF (by decide) (th_rgI hP hv)
  

set_option maxRecDepth 100000 in
set_option maxHeartbeats 800000 in
theorem c_X6_remove (l : Launch) (Y : th_Y) (H0 : Heap) (ro : Nat → Nat) (hJ : th_gJ ro 16) (S : th_S) (thr stp efr esz etr : Int32) (val siz tre spa pro bes isr key lev kvi ksz krt ala fol cts : Nat → Int32) (hP : va_P Y.1 vwCl [(ro 0, .inr (6, [.int thr, .ref (ro 1), .ref (ro 2), .int (nI S.1), .ref (ro 3), .ref (ro 4), .ref (ro 5), .int (nI S.2.2.2.1), .ref (ro 6), .ref (ro 7), .int stp, .int efr, .int esz, .int etr, .ref (ro 8), .ref (ro 9), .ref (ro 10), .ref (ro 11), .ref (ro 12), .ref (ro 13), .ref (ro 14), .ref (ro 15)])), (ro 1, .inl (Y.2 0, 300, .inl val)), (ro 2, .inl (Y.2 0, 3, .inl siz)), (ro 3, .inl (Y.2 0, 8, .inl tre)), (ro 4, .inl (Y.2 0, 8, .inl spa)), (ro 5, .inl (Y.2 0, 12, .inl pro)), (ro 6, .inl (Y.2 0, 12, .inl bes)), (ro 7, .inl (Y.2 1, 12, .inl isr)), (ro 8, .inl (Y.2 0, 64, .inl key)), (ro 9, .inl (Y.2 0, 64, .inl lev)), (ro 10, .inl (Y.2 0, 4, .inl kvi)), (ro 11, .inl (Y.2 0, 4, .inl ksz)), (ro 12, .inl (Y.2 0, 4, .inl krt)), (ro 13, .inl (Y.2 1, 4, .inl ala)), (ro 14, .inl (Y.2 0, 4, .inl fol)), (ro 15, .inl (Y.2 0, 4, .inl cts))] H0) (hv : th_RIv S val siz pro key kvi ksz krt ala fol cts) (x1 : Int32) : th_M l Y yX6_remove cX6_remove 3 (some .int) (th_rm 6 0 0) [.ref (ro 0), .int x1] H0 (fun z => z ∈ [ro 0, ro 1, ro 2, ro 3, ro 4, ro 5, ro 6, ro 7, ro 8, ro 9, ro 10, ro 11, ro 12, ro 13, ro 14, ro 15]) (th_ro Y ro (sp_remove S x1)) := by
  refine th_M.intro (by decide) (Nat.le_of_ble_eq_true rfl) ?_
  intro p e s m args below meth c ls Q hQ C hKN hl hS
  obtain ⟨hx, hb, hr, hml, hown, hts, hlk, hnm⟩ := C
  obtain ⟨hK, hN⟩ := hKN
  have hown : s.vm.findClass RX6 = some m.cls := hown
  have hl : lv_has ls 3 [(0, .ref (ro 0)), (1, .int x1)] := hl
  have hD : va_D (fun z => z ∈ [ro 0, ro 1, ro 2, ro 3, ro 4, ro 5, ro 6, ro 7, ro 8, ro 9, ro 10, ro 11, ro 12, ro 13, ro 14, ro 15]) [(ro 0, .inr (6, [.int thr, .ref (ro 1), .ref (ro 2), .int (nI S.1), .ref (ro 3), .ref (ro 4), .ref (ro 5), .int (nI S.2.2.2.1), .ref (ro 6), .ref (ro 7), .int stp, .int efr, .int esz, .int etr, .ref (ro 8), .ref (ro 9), .ref (ro 10), .ref (ro 11), .ref (ro 12), .ref (ro 13), .ref (ro 14), .ref (ro 15)])), (ro 1, .inl (Y.2 0, 300, .inl val)), (ro 2, .inl (Y.2 0, 3, .inl siz)), (ro 3, .inl (Y.2 0, 8, .inl tre)), (ro 4, .inl (Y.2 0, 8, .inl spa)), (ro 5, .inl (Y.2 0, 12, .inl pro)), (ro 6, .inl (Y.2 0, 12, .inl bes)), (ro 7, .inl (Y.2 1, 12, .inl isr)), (ro 8, .inl (Y.2 0, 64, .inl key)), (ro 9, .inl (Y.2 0, 64, .inl lev)), (ro 10, .inl (Y.2 0, 4, .inl kvi)), (ro 11, .inl (Y.2 0, 4, .inl ksz)), (ro 12, .inl (Y.2 0, 4, .inl krt)), (ro 13, .inl (Y.2 1, 4, .inl ala)), (ro 14, .inl (Y.2 0, 4, .inl fol)), (ro 15, .inl (Y.2 0, 4, .inl cts))] := th_mem (th_gD hJ [0, 1, 2, 3, 4, 5, 6, 7, 8, 9, 10, 11, 12, 13, 14, 15] (fun k9 hk9 => by simp only [List.mem_cons, List.not_mem_nil, or_false] at hk9; omega) th_nd16 rfl)
  have hv1 := hv.1
  have hv12 := hv.2.2.1
  refine lv_aload_n hx hb dX6_remove_0 rfl (lv_at hl 0 rfl) ?_
  refine lv_iload_n hx hb dX6_remove_1 rfl (lv_at hl 1 rfl) ?_
  refine th_callS hx hb hml hown hts ⟨hK, hN⟩ hl hS (rest := [.ref (ro 0)]) (c_X6_isKey l Y _ x1) ok_X6_isKey tw_4_85 dX6_remove_2 rfl rfl (Nat.le_of_ble_eq_true rfl) ⟨Nat.le_of_ble_eq_true rfl, Nat.le_of_ble_eq_true rfl⟩ ⟨Nat.le_of_ble_eq_true rfl, Nat.le_of_ble_eq_true rfl⟩ (fun _ h => h.elim) (th_kpi (fun locs hS => ?_))
  by_cases q1 : th_ir x1 0 64
  · refine th_ti (th_bT q1) ?_
    have uq9 := q1
    obtain ⟨j1, j1a, j1b, ux9⟩ := uq9
    subst ux9
    have zj1 : th_ix (nI j1) = j1 := th_ixN (by omega)
    refine th_zeq (tgt := 12) hx hb dX6_remove_5 (by decide) (by omega) (fun c_1 => by exfalso; omega) (fun c_1 => ?_)
    refine lv_iconst (v := nI 0) hx hb dX6_remove_8 (by decide) ?_
    refine lv_goto (tgt := 13) hx hb dX6_remove_9 (by decide) ?_
    refine th_callV hx hb hml hown hts ⟨hK, hN⟩ hl hS (hP 0 _ rfl) rfl (rest := []) (c_X6_goesWell l Y _ ro thr stp efr esz etr S.1 S.2.2.2.1 (hP.sub (ws' := [(ro 0, .inr (6, [.int thr, .ref (ro 1), .ref (ro 2), .int (nI S.1), .ref (ro 3), .ref (ro 4), .ref (ro 5), .int (nI S.2.2.2.1), .ref (ro 6), .ref (ro 7), .int stp, .int efr, .int esz, .int etr, .ref (ro 8), .ref (ro 9), .ref (ro 10), .ref (ro 11), .ref (ro 12), .ref (ro 13), .ref (ro 14), .ref (ro 15)]))]) [0] rfl) 0 (by omega)) ok_X6_goesWell tw_4_1 dX6_remove_13 rfl rfl (Nat.le_of_ble_eq_true rfl) ⟨Nat.le_of_ble_eq_true rfl, Nat.le_of_ble_eq_true rfl⟩ ⟨Nat.le_of_ble_eq_true rfl, Nat.le_of_ble_eq_true rfl⟩ (th_subL [0] rfl) (th_ki (fun rz9 H locs hp hsm hS => ?_))
    obtain ⟨hrz, hPc⟩ := hp
    have hP : va_P Y.1 vwCl [(ro 0, .inr (6, [.int (nI 0), .ref (ro 1), .ref (ro 2), .int (nI S.1), .ref (ro 3), .ref (ro 4), .ref (ro 5), .int (nI S.2.2.2.1), .ref (ro 6), .ref (ro 7), .int stp, .int efr, .int esz, .int etr, .ref (ro 8), .ref (ro 9), .ref (ro 10), .ref (ro 11), .ref (ro 12), .ref (ro 13), .ref (ro 14), .ref (ro 15)])), (ro 1, .inl (Y.2 0, 300, .inl val)), (ro 2, .inl (Y.2 0, 3, .inl siz)), (ro 3, .inl (Y.2 0, 8, .inl tre)), (ro 4, .inl (Y.2 0, 8, .inl spa)), (ro 5, .inl (Y.2 0, 12, .inl pro)), (ro 6, .inl (Y.2 0, 12, .inl bes)), (ro 7, .inl (Y.2 1, 12, .inl isr)), (ro 8, .inl (Y.2 0, 64, .inl key)), (ro 9, .inl (Y.2 0, 64, .inl lev)), (ro 10, .inl (Y.2 0, 4, .inl kvi)), (ro 11, .inl (Y.2 0, 4, .inl ksz)), (ro 12, .inl (Y.2 0, 4, .inl krt)), (ro 13, .inl (Y.2 1, 4, .inl ala)), (ro 14, .inl (Y.2 0, 4, .inl fol)), (ro 15, .inl (Y.2 0, 4, .inl cts))] _ := (th_join (wr := [(ro 1, .inl (Y.2 0, 300, .inl val)), (ro 2, .inl (Y.2 0, 3, .inl siz)), (ro 3, .inl (Y.2 0, 8, .inl tre)), (ro 4, .inl (Y.2 0, 8, .inl spa)), (ro 5, .inl (Y.2 0, 12, .inl pro)), (ro 6, .inl (Y.2 0, 12, .inl bes)), (ro 7, .inl (Y.2 1, 12, .inl isr)), (ro 8, .inl (Y.2 0, 64, .inl key)), (ro 9, .inl (Y.2 0, 64, .inl lev)), (ro 10, .inl (Y.2 0, 4, .inl kvi)), (ro 11, .inl (Y.2 0, 4, .inl ksz)), (ro 12, .inl (Y.2 0, 4, .inl krt)), (ro 13, .inl (Y.2 1, 4, .inl ala)), (ro 14, .inl (Y.2 0, 4, .inl fol)), (ro 15, .inl (Y.2 0, 4, .inl cts))]) hP hD [1, 2, 3, 4, 5, 6, 7, 8, 9, 10, 11, 12, 13, 14, 15] [0] rfl rfl (by decide) hsm hPc).sub [15, 0, 1, 2, 3, 4, 5, 6, 7, 8, 9, 10, 11, 12, 13, 14] rfl
    have hD : va_D _ [(ro 0, .inr (6, [.int (nI 0), .ref (ro 1), .ref (ro 2), .int (nI S.1), .ref (ro 3), .ref (ro 4), .ref (ro 5), .int (nI S.2.2.2.1), .ref (ro 6), .ref (ro 7), .int stp, .int efr, .int esz, .int etr, .ref (ro 8), .ref (ro 9), .ref (ro 10), .ref (ro 11), .ref (ro 12), .ref (ro 13), .ref (ro 14), .ref (ro 15)])), (ro 1, .inl (Y.2 0, 300, .inl val)), (ro 2, .inl (Y.2 0, 3, .inl siz)), (ro 3, .inl (Y.2 0, 8, .inl tre)), (ro 4, .inl (Y.2 0, 8, .inl spa)), (ro 5, .inl (Y.2 0, 12, .inl pro)), (ro 6, .inl (Y.2 0, 12, .inl bes)), (ro 7, .inl (Y.2 1, 12, .inl isr)), (ro 8, .inl (Y.2 0, 64, .inl key)), (ro 9, .inl (Y.2 0, 64, .inl lev)), (ro 10, .inl (Y.2 0, 4, .inl kvi)), (ro 11, .inl (Y.2 0, 4, .inl ksz)), (ro 12, .inl (Y.2 0, 4, .inl krt)), (ro 13, .inl (Y.2 1, 4, .inl ala)), (ro 14, .inl (Y.2 0, 4, .inl fol)), (ro 15, .inl (Y.2 0, 4, .inl cts))] := th_Dsame hD rfl
    obtain rfl : rz9 = nI 1 := by rw [hrz]; rfl
    refine th_zne (tgt := 21) hx hb dX6_remove_16 (by decide) (by omega) (fun c_2 => ?_) (fun c_2 => by exfalso; omega)
    refine lv_aload_n hx hb dX6_remove_21 rfl (lv_at hl 0 rfl) ?_
    refine va_get (D := Y.1) (ci := 6) (v := .ref (ro 8)) (C := RX6) (T := TX6) (N := 22) hx hb hts inX6 hown hK hP 0 rfl rfl 14 (by decide) (hts _ tw_3_169) (fun _ h9 => h9) rfl dX6_remove_22 ?_
    refine lv_iload_n hx hb dX6_remove_25 rfl (lv_at hl 1 rfl) ?_
    refine th_iald hx hb hK hP 8 rfl (j := j1) (by omega) (by omega) dX6_remove_26 ?_
    refine lv_istore_n (lv' := [(2, .int (key j1)), (0, .ref (ro 0)), (1, .int (nI j1))]) hx hb dX6_remove_27 rfl hl (by decide) rfl (fun ls hl => ?_)
    refine lv_aload_n hx hb dX6_remove_28 rfl (lv_at hl 1 rfl) ?_
    refine va_get (D := Y.1) (ci := 6) (v := .ref (ro 8)) (C := RX6) (T := TX6) (N := 22) hx hb hts inX6 hown hK hP 0 rfl rfl 14 (by decide) (hts _ tw_3_169) (fun _ h9 => h9) rfl dX6_remove_29 ?_
    refine lv_iload_n hx hb dX6_remove_32 rfl (lv_at hl 2 rfl) ?_
    refine lv_iconst (v := -1) hx hb dX6_remove_33 (by decide) ?_
    refine th_iast hx hb hK hP hD hS 8 rfl (j := j1) (by omega) (by omega) dX6_remove_34 (fun H locs hP hD hS => ?_)
    have hP : va_P Y.1 vwCl [(ro 0, .inr (6, [.int (nI 0), .ref (ro 1), .ref (ro 2), .int (nI S.1), .ref (ro 3), .ref (ro 4), .ref (ro 5), .int (nI S.2.2.2.1), .ref (ro 6), .ref (ro 7), .int stp, .int efr, .int esz, .int etr, .ref (ro 8), .ref (ro 9), .ref (ro 10), .ref (ro 11), .ref (ro 12), .ref (ro 13), .ref (ro 14), .ref (ro 15)])), (ro 1, .inl (Y.2 0, 300, .inl val)), (ro 2, .inl (Y.2 0, 3, .inl siz)), (ro 3, .inl (Y.2 0, 8, .inl tre)), (ro 4, .inl (Y.2 0, 8, .inl spa)), (ro 5, .inl (Y.2 0, 12, .inl pro)), (ro 6, .inl (Y.2 0, 12, .inl bes)), (ro 7, .inl (Y.2 1, 12, .inl isr)), (ro 8, .inl (Y.2 0, 64, .inl (upd key j1 (-1)))), (ro 9, .inl (Y.2 0, 64, .inl lev)), (ro 10, .inl (Y.2 0, 4, .inl kvi)), (ro 11, .inl (Y.2 0, 4, .inl ksz)), (ro 12, .inl (Y.2 0, 4, .inl krt)), (ro 13, .inl (Y.2 1, 4, .inl ala)), (ro 14, .inl (Y.2 0, 4, .inl fol)), (ro 15, .inl (Y.2 0, 4, .inl cts))] _ := hP
    have hD : va_D _ [(ro 0, .inr (6, [.int (nI 0), .ref (ro 1), .ref (ro 2), .int (nI S.1), .ref (ro 3), .ref (ro 4), .ref (ro 5), .int (nI S.2.2.2.1), .ref (ro 6), .ref (ro 7), .int stp, .int efr, .int esz, .int etr, .ref (ro 8), .ref (ro 9), .ref (ro 10), .ref (ro 11), .ref (ro 12), .ref (ro 13), .ref (ro 14), .ref (ro 15)])), (ro 1, .inl (Y.2 0, 300, .inl val)), (ro 2, .inl (Y.2 0, 3, .inl siz)), (ro 3, .inl (Y.2 0, 8, .inl tre)), (ro 4, .inl (Y.2 0, 8, .inl spa)), (ro 5, .inl (Y.2 0, 12, .inl pro)), (ro 6, .inl (Y.2 0, 12, .inl bes)), (ro 7, .inl (Y.2 1, 12, .inl isr)), (ro 8, .inl (Y.2 0, 64, .inl (upd key j1 (-1)))), (ro 9, .inl (Y.2 0, 64, .inl lev)), (ro 10, .inl (Y.2 0, 4, .inl kvi)), (ro 11, .inl (Y.2 0, 4, .inl ksz)), (ro 12, .inl (Y.2 0, 4, .inl krt)), (ro 13, .inl (Y.2 1, 4, .inl ala)), (ro 14, .inl (Y.2 0, 4, .inl fol)), (ro 15, .inl (Y.2 0, 4, .inl cts))] := hD
    refine lv_iload_n hx hb dX6_remove_35 rfl (lv_at hl 0 rfl) ?_
    refine th_iret hx hb hr hlk hQ hS dX6_remove_36 (Nat.le_of_ble_eq_true rfl) (Nat.le_of_ble_eq_true rfl) ?_
    show th_ro Y ro (_) _ _
    unfold sp_remove
    simp only [zj1]
    rw [th_ifT q1]
    exact th_roT (hv.2.2.2.2.1 j1 j1b) (th_rgI hP (th_RvM hv (th_updE (fun j9 hj9 _ => hv.2.2.2.2.1 j9 hj9))))
    
  refine th_ti (th_bF q1) ?_
  refine th_zeq (tgt := 12) hx hb dX6_remove_5 (by decide) (by omega) (fun c_3 => ?_) (fun c_3 => by exfalso; omega)
  refine lv_iconst (v := nI 1) hx hb dX6_remove_12 (by decide) ?_
  refine th_callV hx hb hml hown hts ⟨hK, hN⟩ hl hS (hP 0 _ rfl) rfl (rest := []) (c_X6_goesWell l Y _ ro thr stp efr esz etr S.1 S.2.2.2.1 (hP.sub (ws' := [(ro 0, .inr (6, [.int thr, .ref (ro 1), .ref (ro 2), .int (nI S.1), .ref (ro 3), .ref (ro 4), .ref (ro 5), .int (nI S.2.2.2.1), .ref (ro 6), .ref (ro 7), .int stp, .int efr, .int esz, .int etr, .ref (ro 8), .ref (ro 9), .ref (ro 10), .ref (ro 11), .ref (ro 12), .ref (ro 13), .ref (ro 14), .ref (ro 15)]))]) [0] rfl) 1 (by omega)) ok_X6_goesWell tw_4_1 dX6_remove_13 rfl rfl (Nat.le_of_ble_eq_true rfl) ⟨Nat.le_of_ble_eq_true rfl, Nat.le_of_ble_eq_true rfl⟩ ⟨Nat.le_of_ble_eq_true rfl, Nat.le_of_ble_eq_true rfl⟩ (th_subL [0] rfl) (th_ki (fun rz9 H locs hp hsm hS => ?_))
  obtain ⟨hrz, hPc⟩ := hp
  have hP : va_P Y.1 vwCl [(ro 0, .inr (6, [.int (nI 1), .ref (ro 1), .ref (ro 2), .int (nI S.1), .ref (ro 3), .ref (ro 4), .ref (ro 5), .int (nI S.2.2.2.1), .ref (ro 6), .ref (ro 7), .int stp, .int efr, .int esz, .int etr, .ref (ro 8), .ref (ro 9), .ref (ro 10), .ref (ro 11), .ref (ro 12), .ref (ro 13), .ref (ro 14), .ref (ro 15)])), (ro 1, .inl (Y.2 0, 300, .inl val)), (ro 2, .inl (Y.2 0, 3, .inl siz)), (ro 3, .inl (Y.2 0, 8, .inl tre)), (ro 4, .inl (Y.2 0, 8, .inl spa)), (ro 5, .inl (Y.2 0, 12, .inl pro)), (ro 6, .inl (Y.2 0, 12, .inl bes)), (ro 7, .inl (Y.2 1, 12, .inl isr)), (ro 8, .inl (Y.2 0, 64, .inl key)), (ro 9, .inl (Y.2 0, 64, .inl lev)), (ro 10, .inl (Y.2 0, 4, .inl kvi)), (ro 11, .inl (Y.2 0, 4, .inl ksz)), (ro 12, .inl (Y.2 0, 4, .inl krt)), (ro 13, .inl (Y.2 1, 4, .inl ala)), (ro 14, .inl (Y.2 0, 4, .inl fol)), (ro 15, .inl (Y.2 0, 4, .inl cts))] _ := (th_join (wr := [(ro 1, .inl (Y.2 0, 300, .inl val)), (ro 2, .inl (Y.2 0, 3, .inl siz)), (ro 3, .inl (Y.2 0, 8, .inl tre)), (ro 4, .inl (Y.2 0, 8, .inl spa)), (ro 5, .inl (Y.2 0, 12, .inl pro)), (ro 6, .inl (Y.2 0, 12, .inl bes)), (ro 7, .inl (Y.2 1, 12, .inl isr)), (ro 8, .inl (Y.2 0, 64, .inl key)), (ro 9, .inl (Y.2 0, 64, .inl lev)), (ro 10, .inl (Y.2 0, 4, .inl kvi)), (ro 11, .inl (Y.2 0, 4, .inl ksz)), (ro 12, .inl (Y.2 0, 4, .inl krt)), (ro 13, .inl (Y.2 1, 4, .inl ala)), (ro 14, .inl (Y.2 0, 4, .inl fol)), (ro 15, .inl (Y.2 0, 4, .inl cts))]) hP hD [1, 2, 3, 4, 5, 6, 7, 8, 9, 10, 11, 12, 13, 14, 15] [0] rfl rfl (by decide) hsm hPc).sub [15, 0, 1, 2, 3, 4, 5, 6, 7, 8, 9, 10, 11, 12, 13, 14] rfl
  have hD : va_D _ [(ro 0, .inr (6, [.int (nI 1), .ref (ro 1), .ref (ro 2), .int (nI S.1), .ref (ro 3), .ref (ro 4), .ref (ro 5), .int (nI S.2.2.2.1), .ref (ro 6), .ref (ro 7), .int stp, .int efr, .int esz, .int etr, .ref (ro 8), .ref (ro 9), .ref (ro 10), .ref (ro 11), .ref (ro 12), .ref (ro 13), .ref (ro 14), .ref (ro 15)])), (ro 1, .inl (Y.2 0, 300, .inl val)), (ro 2, .inl (Y.2 0, 3, .inl siz)), (ro 3, .inl (Y.2 0, 8, .inl tre)), (ro 4, .inl (Y.2 0, 8, .inl spa)), (ro 5, .inl (Y.2 0, 12, .inl pro)), (ro 6, .inl (Y.2 0, 12, .inl bes)), (ro 7, .inl (Y.2 1, 12, .inl isr)), (ro 8, .inl (Y.2 0, 64, .inl key)), (ro 9, .inl (Y.2 0, 64, .inl lev)), (ro 10, .inl (Y.2 0, 4, .inl kvi)), (ro 11, .inl (Y.2 0, 4, .inl ksz)), (ro 12, .inl (Y.2 0, 4, .inl krt)), (ro 13, .inl (Y.2 1, 4, .inl ala)), (ro 14, .inl (Y.2 0, 4, .inl fol)), (ro 15, .inl (Y.2 0, 4, .inl cts))] := th_Dsame hD rfl
  obtain rfl : rz9 = nI 0 := by rw [hrz]; rfl
  refine th_zne (tgt := 21) hx hb dX6_remove_16 (by decide) (by omega) (fun c_4 => by exfalso; omega) (fun c_4 => ?_)
  refine lv_iconst (v := nI 0) hx hb dX6_remove_19 (by decide) ?_
  refine th_iret hx hb hr hlk hQ hS dX6_remove_20 (Nat.le_of_ble_eq_true rfl) (Nat.le_of_ble_eq_true rfl) ?_
  show th_ro Y ro (_) _ _
  unfold sp_remove
  rw [th_ifF (fun z9 => q1 z9)]
  exact th_roF (by decide) (th_rgI hP hv)
  

set_option maxRecDepth 100000 in
set_option maxHeartbeats 800000 in
theorem c_X6_follow (l : Launch) (Y : th_Y) (H0 : Heap) (ro : Nat → Nat) (hJ : th_gJ ro 16) (S : th_S) (thr stp efr esz etr : Int32) (val siz tre spa pro bes isr key lev kvi ksz krt ala fol cts : Nat → Int32) (hP : va_P Y.1 vwCl [(ro 0, .inr (6, [.int thr, .ref (ro 1), .ref (ro 2), .int (nI S.1), .ref (ro 3), .ref (ro 4), .ref (ro 5), .int (nI S.2.2.2.1), .ref (ro 6), .ref (ro 7), .int stp, .int efr, .int esz, .int etr, .ref (ro 8), .ref (ro 9), .ref (ro 10), .ref (ro 11), .ref (ro 12), .ref (ro 13), .ref (ro 14), .ref (ro 15)])), (ro 1, .inl (Y.2 0, 300, .inl val)), (ro 2, .inl (Y.2 0, 3, .inl siz)), (ro 3, .inl (Y.2 0, 8, .inl tre)), (ro 4, .inl (Y.2 0, 8, .inl spa)), (ro 5, .inl (Y.2 0, 12, .inl pro)), (ro 6, .inl (Y.2 0, 12, .inl bes)), (ro 7, .inl (Y.2 1, 12, .inl isr)), (ro 8, .inl (Y.2 0, 64, .inl key)), (ro 9, .inl (Y.2 0, 64, .inl lev)), (ro 10, .inl (Y.2 0, 4, .inl kvi)), (ro 11, .inl (Y.2 0, 4, .inl ksz)), (ro 12, .inl (Y.2 0, 4, .inl krt)), (ro 13, .inl (Y.2 1, 4, .inl ala)), (ro 14, .inl (Y.2 0, 4, .inl fol)), (ro 15, .inl (Y.2 0, 4, .inl cts))] H0) (hv : th_RIv S val siz pro key kvi ksz krt ala fol cts) (x1 x2 : Int32) : th_M l Y yX6_follow cX6_follow 3 none (th_rm 6 0 0) [.ref (ro 0), .int x1, .int x2] H0 (fun z => z ∈ [ro 0, ro 1, ro 2, ro 3, ro 4, ro 5, ro 6, ro 7, ro 8, ro 9, ro 10, ro 11, ro 12, ro 13, ro 14, ro 15]) (th_rv Y ro (sp_follow S x1 x2)) := by
  refine th_M.intro (by decide) (Nat.le_of_ble_eq_true rfl) ?_
  intro p e s m args below meth c ls Q hQ C hKN hl hS
  obtain ⟨hx, hb, hr, hml, hown, hts, hlk, hnm⟩ := C
  obtain ⟨hK, hN⟩ := hKN
  have hown : s.vm.findClass RX6 = some m.cls := hown
  have hl : lv_has ls 3 [(0, .ref (ro 0)), (1, .int x1), (2, .int x2)] := hl
  have hD : va_D (fun z => z ∈ [ro 0, ro 1, ro 2, ro 3, ro 4, ro 5, ro 6, ro 7, ro 8, ro 9, ro 10, ro 11, ro 12, ro 13, ro 14, ro 15]) [(ro 0, .inr (6, [.int thr, .ref (ro 1), .ref (ro 2), .int (nI S.1), .ref (ro 3), .ref (ro 4), .ref (ro 5), .int (nI S.2.2.2.1), .ref (ro 6), .ref (ro 7), .int stp, .int efr, .int esz, .int etr, .ref (ro 8), .ref (ro 9), .ref (ro 10), .ref (ro 11), .ref (ro 12), .ref (ro 13), .ref (ro 14), .ref (ro 15)])), (ro 1, .inl (Y.2 0, 300, .inl val)), (ro 2, .inl (Y.2 0, 3, .inl siz)), (ro 3, .inl (Y.2 0, 8, .inl tre)), (ro 4, .inl (Y.2 0, 8, .inl spa)), (ro 5, .inl (Y.2 0, 12, .inl pro)), (ro 6, .inl (Y.2 0, 12, .inl bes)), (ro 7, .inl (Y.2 1, 12, .inl isr)), (ro 8, .inl (Y.2 0, 64, .inl key)), (ro 9, .inl (Y.2 0, 64, .inl lev)), (ro 10, .inl (Y.2 0, 4, .inl kvi)), (ro 11, .inl (Y.2 0, 4, .inl ksz)), (ro 12, .inl (Y.2 0, 4, .inl krt)), (ro 13, .inl (Y.2 1, 4, .inl ala)), (ro 14, .inl (Y.2 0, 4, .inl fol)), (ro 15, .inl (Y.2 0, 4, .inl cts))] := th_mem (th_gD hJ [0, 1, 2, 3, 4, 5, 6, 7, 8, 9, 10, 11, 12, 13, 14, 15] (fun k9 hk9 => by simp only [List.mem_cons, List.not_mem_nil, or_false] at hk9; omega) th_nd16 rfl)
  have hv1 := hv.1
  have hv12 := hv.2.2.1
  refine lv_aload_n hx hb dX6_follow_0 rfl (lv_at hl 0 rfl) ?_
  refine lv_iload_n hx hb dX6_follow_1 rfl (lv_at hl 1 rfl) ?_
  refine th_callS hx hb hml hown hts ⟨hK, hN⟩ hl hS (rest := [.ref (ro 0)]) (c_X6_isWatcher l Y _ x1) ok_X6_isWatcher tw_4_147 dX6_follow_2 rfl rfl (Nat.le_of_ble_eq_true rfl) ⟨Nat.le_of_ble_eq_true rfl, Nat.le_of_ble_eq_true rfl⟩ ⟨Nat.le_of_ble_eq_true rfl, Nat.le_of_ble_eq_true rfl⟩ (fun _ h => h.elim) (th_kpi (fun locs hS => ?_))
  by_cases q1 : th_ir x1 0 4
  · refine th_ti (th_bT q1) ?_
    have uq9 := q1
    obtain ⟨j1, j1a, j1b, ux9⟩ := uq9
    subst ux9
    have zj1 : th_ix (nI j1) = j1 := th_ixN (by omega)
    refine th_zne (tgt := 12) hx hb dX6_follow_5 (by decide) (by omega) (fun c_1 => ?_) (fun c_1 => by exfalso; omega)
    refine lv_iload_n hx hb dX6_follow_12 rfl (lv_at hl 2 rfl) ?_
    refine th_callS hx hb hml hown hts ⟨hK, hN⟩ hl hS (rest := [.ref (ro 0)]) (c_X6_isValue l Y _ x2) ok_X6_isValue tw_3_237 dX6_follow_13 rfl rfl (Nat.le_of_ble_eq_true rfl) ⟨Nat.le_of_ble_eq_true rfl, Nat.le_of_ble_eq_true rfl⟩ ⟨Nat.le_of_ble_eq_true rfl, Nat.le_of_ble_eq_true rfl⟩ (fun _ h => h.elim) (th_kpi (fun locs hS => ?_))
    by_cases q2 : th_ir x2 0 65536
    · refine th_ti (th_bT q2) ?_
      have uq9 := q2
      obtain ⟨j2, j2a, j2b, ux9⟩ := uq9
      subst ux9
      have zj2 : th_ix (nI j2) = j2 := th_ixN (by omega)
      refine th_zeq (tgt := 23) hx hb dX6_follow_16 (by decide) (by omega) (fun c_2 => by exfalso; omega) (fun c_2 => ?_)
      refine lv_iconst (v := nI 0) hx hb dX6_follow_19 (by decide) ?_
      refine lv_goto (tgt := 24) hx hb dX6_follow_20 (by decide) ?_
      refine th_callV hx hb hml hown hts ⟨hK, hN⟩ hl hS (hP 0 _ rfl) rfl (rest := []) (c_X6_goesWell l Y _ ro thr stp efr esz etr S.1 S.2.2.2.1 (hP.sub (ws' := [(ro 0, .inr (6, [.int thr, .ref (ro 1), .ref (ro 2), .int (nI S.1), .ref (ro 3), .ref (ro 4), .ref (ro 5), .int (nI S.2.2.2.1), .ref (ro 6), .ref (ro 7), .int stp, .int efr, .int esz, .int etr, .ref (ro 8), .ref (ro 9), .ref (ro 10), .ref (ro 11), .ref (ro 12), .ref (ro 13), .ref (ro 14), .ref (ro 15)]))]) [0] rfl) 0 (by omega)) ok_X6_goesWell tw_4_1 dX6_follow_24 rfl rfl (Nat.le_of_ble_eq_true rfl) ⟨Nat.le_of_ble_eq_true rfl, Nat.le_of_ble_eq_true rfl⟩ ⟨Nat.le_of_ble_eq_true rfl, Nat.le_of_ble_eq_true rfl⟩ (th_subL [0] rfl) (th_ki (fun rz9 H locs hp hsm hS => ?_))
      obtain ⟨hrz, hPc⟩ := hp
      have hP : va_P Y.1 vwCl [(ro 0, .inr (6, [.int (nI 0), .ref (ro 1), .ref (ro 2), .int (nI S.1), .ref (ro 3), .ref (ro 4), .ref (ro 5), .int (nI S.2.2.2.1), .ref (ro 6), .ref (ro 7), .int stp, .int efr, .int esz, .int etr, .ref (ro 8), .ref (ro 9), .ref (ro 10), .ref (ro 11), .ref (ro 12), .ref (ro 13), .ref (ro 14), .ref (ro 15)])), (ro 1, .inl (Y.2 0, 300, .inl val)), (ro 2, .inl (Y.2 0, 3, .inl siz)), (ro 3, .inl (Y.2 0, 8, .inl tre)), (ro 4, .inl (Y.2 0, 8, .inl spa)), (ro 5, .inl (Y.2 0, 12, .inl pro)), (ro 6, .inl (Y.2 0, 12, .inl bes)), (ro 7, .inl (Y.2 1, 12, .inl isr)), (ro 8, .inl (Y.2 0, 64, .inl key)), (ro 9, .inl (Y.2 0, 64, .inl lev)), (ro 10, .inl (Y.2 0, 4, .inl kvi)), (ro 11, .inl (Y.2 0, 4, .inl ksz)), (ro 12, .inl (Y.2 0, 4, .inl krt)), (ro 13, .inl (Y.2 1, 4, .inl ala)), (ro 14, .inl (Y.2 0, 4, .inl fol)), (ro 15, .inl (Y.2 0, 4, .inl cts))] _ := (th_join (wr := [(ro 1, .inl (Y.2 0, 300, .inl val)), (ro 2, .inl (Y.2 0, 3, .inl siz)), (ro 3, .inl (Y.2 0, 8, .inl tre)), (ro 4, .inl (Y.2 0, 8, .inl spa)), (ro 5, .inl (Y.2 0, 12, .inl pro)), (ro 6, .inl (Y.2 0, 12, .inl bes)), (ro 7, .inl (Y.2 1, 12, .inl isr)), (ro 8, .inl (Y.2 0, 64, .inl key)), (ro 9, .inl (Y.2 0, 64, .inl lev)), (ro 10, .inl (Y.2 0, 4, .inl kvi)), (ro 11, .inl (Y.2 0, 4, .inl ksz)), (ro 12, .inl (Y.2 0, 4, .inl krt)), (ro 13, .inl (Y.2 1, 4, .inl ala)), (ro 14, .inl (Y.2 0, 4, .inl fol)), (ro 15, .inl (Y.2 0, 4, .inl cts))]) hP hD [1, 2, 3, 4, 5, 6, 7, 8, 9, 10, 11, 12, 13, 14, 15] [0] rfl rfl (by decide) hsm hPc).sub [15, 0, 1, 2, 3, 4, 5, 6, 7, 8, 9, 10, 11, 12, 13, 14] rfl
      have hD : va_D _ [(ro 0, .inr (6, [.int (nI 0), .ref (ro 1), .ref (ro 2), .int (nI S.1), .ref (ro 3), .ref (ro 4), .ref (ro 5), .int (nI S.2.2.2.1), .ref (ro 6), .ref (ro 7), .int stp, .int efr, .int esz, .int etr, .ref (ro 8), .ref (ro 9), .ref (ro 10), .ref (ro 11), .ref (ro 12), .ref (ro 13), .ref (ro 14), .ref (ro 15)])), (ro 1, .inl (Y.2 0, 300, .inl val)), (ro 2, .inl (Y.2 0, 3, .inl siz)), (ro 3, .inl (Y.2 0, 8, .inl tre)), (ro 4, .inl (Y.2 0, 8, .inl spa)), (ro 5, .inl (Y.2 0, 12, .inl pro)), (ro 6, .inl (Y.2 0, 12, .inl bes)), (ro 7, .inl (Y.2 1, 12, .inl isr)), (ro 8, .inl (Y.2 0, 64, .inl key)), (ro 9, .inl (Y.2 0, 64, .inl lev)), (ro 10, .inl (Y.2 0, 4, .inl kvi)), (ro 11, .inl (Y.2 0, 4, .inl ksz)), (ro 12, .inl (Y.2 0, 4, .inl krt)), (ro 13, .inl (Y.2 1, 4, .inl ala)), (ro 14, .inl (Y.2 0, 4, .inl fol)), (ro 15, .inl (Y.2 0, 4, .inl cts))] := th_Dsame hD rfl
      obtain rfl : rz9 = nI 1 := by rw [hrz]; rfl
      refine th_zeq (tgt := 44) hx hb dX6_follow_27 (by decide) (by omega) (fun c_3 => by exfalso; omega) (fun c_3 => ?_)
      refine lv_aload_n hx hb dX6_follow_30 rfl (lv_at hl 0 rfl) ?_
      refine va_get (D := Y.1) (ci := 6) (v := .ref (ro 14)) (C := RX6) (T := TX6) (N := 22) hx hb hts inX6 hown hK hP 0 rfl rfl 20 (by decide) (hts _ tw_3_175) (fun _ h9 => h9) rfl dX6_follow_31 ?_
      refine lv_iload_n hx hb dX6_follow_34 rfl (lv_at hl 1 rfl) ?_
      refine lv_iload_n hx hb dX6_follow_35 rfl (lv_at hl 2 rfl) ?_
      refine th_iast hx hb hK hP hD hS 14 rfl (j := j1) (by omega) (by omega) dX6_follow_36 (fun H locs hP hD hS => ?_)
      have hP : va_P Y.1 vwCl [(ro 0, .inr (6, [.int (nI 0), .ref (ro 1), .ref (ro 2), .int (nI S.1), .ref (ro 3), .ref (ro 4), .ref (ro 5), .int (nI S.2.2.2.1), .ref (ro 6), .ref (ro 7), .int stp, .int efr, .int esz, .int etr, .ref (ro 8), .ref (ro 9), .ref (ro 10), .ref (ro 11), .ref (ro 12), .ref (ro 13), .ref (ro 14), .ref (ro 15)])), (ro 1, .inl (Y.2 0, 300, .inl val)), (ro 2, .inl (Y.2 0, 3, .inl siz)), (ro 3, .inl (Y.2 0, 8, .inl tre)), (ro 4, .inl (Y.2 0, 8, .inl spa)), (ro 5, .inl (Y.2 0, 12, .inl pro)), (ro 6, .inl (Y.2 0, 12, .inl bes)), (ro 7, .inl (Y.2 1, 12, .inl isr)), (ro 8, .inl (Y.2 0, 64, .inl key)), (ro 9, .inl (Y.2 0, 64, .inl lev)), (ro 10, .inl (Y.2 0, 4, .inl kvi)), (ro 11, .inl (Y.2 0, 4, .inl ksz)), (ro 12, .inl (Y.2 0, 4, .inl krt)), (ro 13, .inl (Y.2 1, 4, .inl ala)), (ro 14, .inl (Y.2 0, 4, .inl (upd fol j1 (nI j2)))), (ro 15, .inl (Y.2 0, 4, .inl cts))] _ := hP
      have hD : va_D _ [(ro 0, .inr (6, [.int (nI 0), .ref (ro 1), .ref (ro 2), .int (nI S.1), .ref (ro 3), .ref (ro 4), .ref (ro 5), .int (nI S.2.2.2.1), .ref (ro 6), .ref (ro 7), .int stp, .int efr, .int esz, .int etr, .ref (ro 8), .ref (ro 9), .ref (ro 10), .ref (ro 11), .ref (ro 12), .ref (ro 13), .ref (ro 14), .ref (ro 15)])), (ro 1, .inl (Y.2 0, 300, .inl val)), (ro 2, .inl (Y.2 0, 3, .inl siz)), (ro 3, .inl (Y.2 0, 8, .inl tre)), (ro 4, .inl (Y.2 0, 8, .inl spa)), (ro 5, .inl (Y.2 0, 12, .inl pro)), (ro 6, .inl (Y.2 0, 12, .inl bes)), (ro 7, .inl (Y.2 1, 12, .inl isr)), (ro 8, .inl (Y.2 0, 64, .inl key)), (ro 9, .inl (Y.2 0, 64, .inl lev)), (ro 10, .inl (Y.2 0, 4, .inl kvi)), (ro 11, .inl (Y.2 0, 4, .inl ksz)), (ro 12, .inl (Y.2 0, 4, .inl krt)), (ro 13, .inl (Y.2 1, 4, .inl ala)), (ro 14, .inl (Y.2 0, 4, .inl (upd fol j1 (nI j2)))), (ro 15, .inl (Y.2 0, 4, .inl cts))] := hD
      refine lv_aload_n hx hb dX6_follow_37 rfl (lv_at hl 0 rfl) ?_
      refine va_get (D := Y.1) (ci := 6) (v := .ref (ro 15)) (C := RX6) (T := TX6) (N := 22) hx hb hts inX6 hown hK hP 0 rfl rfl 21 (by decide) (hts _ tw_3_176) (fun _ h9 => h9) rfl dX6_follow_38 ?_
      refine lv_iload_n hx hb dX6_follow_41 rfl (lv_at hl 1 rfl) ?_
      refine lv_iconst (v := nI 0) hx hb dX6_follow_42 (by decide) ?_
      refine th_iast hx hb hK hP hD hS 15 rfl (j := j1) (by omega) (by omega) dX6_follow_43 (fun H locs hP hD hS => ?_)
      have hP : va_P Y.1 vwCl [(ro 0, .inr (6, [.int (nI 0), .ref (ro 1), .ref (ro 2), .int (nI S.1), .ref (ro 3), .ref (ro 4), .ref (ro 5), .int (nI S.2.2.2.1), .ref (ro 6), .ref (ro 7), .int stp, .int efr, .int esz, .int etr, .ref (ro 8), .ref (ro 9), .ref (ro 10), .ref (ro 11), .ref (ro 12), .ref (ro 13), .ref (ro 14), .ref (ro 15)])), (ro 1, .inl (Y.2 0, 300, .inl val)), (ro 2, .inl (Y.2 0, 3, .inl siz)), (ro 3, .inl (Y.2 0, 8, .inl tre)), (ro 4, .inl (Y.2 0, 8, .inl spa)), (ro 5, .inl (Y.2 0, 12, .inl pro)), (ro 6, .inl (Y.2 0, 12, .inl bes)), (ro 7, .inl (Y.2 1, 12, .inl isr)), (ro 8, .inl (Y.2 0, 64, .inl key)), (ro 9, .inl (Y.2 0, 64, .inl lev)), (ro 10, .inl (Y.2 0, 4, .inl kvi)), (ro 11, .inl (Y.2 0, 4, .inl ksz)), (ro 12, .inl (Y.2 0, 4, .inl krt)), (ro 13, .inl (Y.2 1, 4, .inl ala)), (ro 14, .inl (Y.2 0, 4, .inl (upd fol j1 (nI j2)))), (ro 15, .inl (Y.2 0, 4, .inl (upd cts j1 (nI 0))))] _ := hP
      have hD : va_D _ [(ro 0, .inr (6, [.int (nI 0), .ref (ro 1), .ref (ro 2), .int (nI S.1), .ref (ro 3), .ref (ro 4), .ref (ro 5), .int (nI S.2.2.2.1), .ref (ro 6), .ref (ro 7), .int stp, .int efr, .int esz, .int etr, .ref (ro 8), .ref (ro 9), .ref (ro 10), .ref (ro 11), .ref (ro 12), .ref (ro 13), .ref (ro 14), .ref (ro 15)])), (ro 1, .inl (Y.2 0, 300, .inl val)), (ro 2, .inl (Y.2 0, 3, .inl siz)), (ro 3, .inl (Y.2 0, 8, .inl tre)), (ro 4, .inl (Y.2 0, 8, .inl spa)), (ro 5, .inl (Y.2 0, 12, .inl pro)), (ro 6, .inl (Y.2 0, 12, .inl bes)), (ro 7, .inl (Y.2 1, 12, .inl isr)), (ro 8, .inl (Y.2 0, 64, .inl key)), (ro 9, .inl (Y.2 0, 64, .inl lev)), (ro 10, .inl (Y.2 0, 4, .inl kvi)), (ro 11, .inl (Y.2 0, 4, .inl ksz)), (ro 12, .inl (Y.2 0, 4, .inl krt)), (ro 13, .inl (Y.2 1, 4, .inl ala)), (ro 14, .inl (Y.2 0, 4, .inl (upd fol j1 (nI j2)))), (ro 15, .inl (Y.2 0, 4, .inl (upd cts j1 (nI 0))))] := hD
      refine th_vret hx hb hr hlk hQ hS dX6_follow_44 (Nat.le_of_ble_eq_true rfl) (Nat.le_of_ble_eq_true rfl) ?_
      show th_rv Y ro (_) _ _
      unfold sp_follow
      simp only [zj1, zj2]
      rw [th_ifT q1, th_ifT q2]
      exact ⟨rfl, th_rgI hP (th_RvW hv j1b (hv.2.2.2.2.2 j1 j1b).2.2.1 (hv.2.2.2.2.2 j1 j1b).2.2.2 (hv.2.2.2.2.2 j1 j1b).2.1 (hv.2.2.2.2.2 j1 j1b).1.1 (hv.2.2.2.2.2 j1 j1b).1.2.1 (hv.2.2.2.2.2 j1 j1b).1.2.2.1 pk_us pk_us (fun a9 h9 => ⟨rfl, rfl, rfl, rfl, pk_un h9, pk_un h9⟩))⟩
      
    refine th_ti (th_bF q2) ?_
    refine th_zeq (tgt := 23) hx hb dX6_follow_16 (by decide) (by omega) (fun c_4 => ?_) (fun c_4 => by exfalso; omega)
    refine lv_iconst (v := nI 2) hx hb dX6_follow_23 (by decide) ?_
    refine th_callV hx hb hml hown hts ⟨hK, hN⟩ hl hS (hP 0 _ rfl) rfl (rest := []) (c_X6_goesWell l Y _ ro thr stp efr esz etr S.1 S.2.2.2.1 (hP.sub (ws' := [(ro 0, .inr (6, [.int thr, .ref (ro 1), .ref (ro 2), .int (nI S.1), .ref (ro 3), .ref (ro 4), .ref (ro 5), .int (nI S.2.2.2.1), .ref (ro 6), .ref (ro 7), .int stp, .int efr, .int esz, .int etr, .ref (ro 8), .ref (ro 9), .ref (ro 10), .ref (ro 11), .ref (ro 12), .ref (ro 13), .ref (ro 14), .ref (ro 15)]))]) [0] rfl) 2 (by omega)) ok_X6_goesWell tw_4_1 dX6_follow_24 rfl rfl (Nat.le_of_ble_eq_true rfl) ⟨Nat.le_of_ble_eq_true rfl, Nat.le_of_ble_eq_true rfl⟩ ⟨Nat.le_of_ble_eq_true rfl, Nat.le_of_ble_eq_true rfl⟩ (th_subL [0] rfl) (th_ki (fun rz9 H locs hp hsm hS => ?_))
    obtain ⟨hrz, hPc⟩ := hp
    have hP : va_P Y.1 vwCl [(ro 0, .inr (6, [.int (nI 2), .ref (ro 1), .ref (ro 2), .int (nI S.1), .ref (ro 3), .ref (ro 4), .ref (ro 5), .int (nI S.2.2.2.1), .ref (ro 6), .ref (ro 7), .int stp, .int efr, .int esz, .int etr, .ref (ro 8), .ref (ro 9), .ref (ro 10), .ref (ro 11), .ref (ro 12), .ref (ro 13), .ref (ro 14), .ref (ro 15)])), (ro 1, .inl (Y.2 0, 300, .inl val)), (ro 2, .inl (Y.2 0, 3, .inl siz)), (ro 3, .inl (Y.2 0, 8, .inl tre)), (ro 4, .inl (Y.2 0, 8, .inl spa)), (ro 5, .inl (Y.2 0, 12, .inl pro)), (ro 6, .inl (Y.2 0, 12, .inl bes)), (ro 7, .inl (Y.2 1, 12, .inl isr)), (ro 8, .inl (Y.2 0, 64, .inl key)), (ro 9, .inl (Y.2 0, 64, .inl lev)), (ro 10, .inl (Y.2 0, 4, .inl kvi)), (ro 11, .inl (Y.2 0, 4, .inl ksz)), (ro 12, .inl (Y.2 0, 4, .inl krt)), (ro 13, .inl (Y.2 1, 4, .inl ala)), (ro 14, .inl (Y.2 0, 4, .inl fol)), (ro 15, .inl (Y.2 0, 4, .inl cts))] _ := (th_join (wr := [(ro 1, .inl (Y.2 0, 300, .inl val)), (ro 2, .inl (Y.2 0, 3, .inl siz)), (ro 3, .inl (Y.2 0, 8, .inl tre)), (ro 4, .inl (Y.2 0, 8, .inl spa)), (ro 5, .inl (Y.2 0, 12, .inl pro)), (ro 6, .inl (Y.2 0, 12, .inl bes)), (ro 7, .inl (Y.2 1, 12, .inl isr)), (ro 8, .inl (Y.2 0, 64, .inl key)), (ro 9, .inl (Y.2 0, 64, .inl lev)), (ro 10, .inl (Y.2 0, 4, .inl kvi)), (ro 11, .inl (Y.2 0, 4, .inl ksz)), (ro 12, .inl (Y.2 0, 4, .inl krt)), (ro 13, .inl (Y.2 1, 4, .inl ala)), (ro 14, .inl (Y.2 0, 4, .inl fol)), (ro 15, .inl (Y.2 0, 4, .inl cts))]) hP hD [1, 2, 3, 4, 5, 6, 7, 8, 9, 10, 11, 12, 13, 14, 15] [0] rfl rfl (by decide) hsm hPc).sub [15, 0, 1, 2, 3, 4, 5, 6, 7, 8, 9, 10, 11, 12, 13, 14] rfl
    have hD : va_D _ [(ro 0, .inr (6, [.int (nI 2), .ref (ro 1), .ref (ro 2), .int (nI S.1), .ref (ro 3), .ref (ro 4), .ref (ro 5), .int (nI S.2.2.2.1), .ref (ro 6), .ref (ro 7), .int stp, .int efr, .int esz, .int etr, .ref (ro 8), .ref (ro 9), .ref (ro 10), .ref (ro 11), .ref (ro 12), .ref (ro 13), .ref (ro 14), .ref (ro 15)])), (ro 1, .inl (Y.2 0, 300, .inl val)), (ro 2, .inl (Y.2 0, 3, .inl siz)), (ro 3, .inl (Y.2 0, 8, .inl tre)), (ro 4, .inl (Y.2 0, 8, .inl spa)), (ro 5, .inl (Y.2 0, 12, .inl pro)), (ro 6, .inl (Y.2 0, 12, .inl bes)), (ro 7, .inl (Y.2 1, 12, .inl isr)), (ro 8, .inl (Y.2 0, 64, .inl key)), (ro 9, .inl (Y.2 0, 64, .inl lev)), (ro 10, .inl (Y.2 0, 4, .inl kvi)), (ro 11, .inl (Y.2 0, 4, .inl ksz)), (ro 12, .inl (Y.2 0, 4, .inl krt)), (ro 13, .inl (Y.2 1, 4, .inl ala)), (ro 14, .inl (Y.2 0, 4, .inl fol)), (ro 15, .inl (Y.2 0, 4, .inl cts))] := th_Dsame hD rfl
    obtain rfl : rz9 = nI 0 := by rw [hrz]; rfl
    refine th_zeq (tgt := 44) hx hb dX6_follow_27 (by decide) (by omega) (fun c_5 => ?_) (fun c_5 => by exfalso; omega)
    refine th_vret hx hb hr hlk hQ hS dX6_follow_44 (Nat.le_of_ble_eq_true rfl) (Nat.le_of_ble_eq_true rfl) ?_
    show th_rv Y ro (_) _ _
    unfold sp_follow
    simp only [zj1]
    rw [th_ifT q1, th_ifF (fun z9 => q2 z9)]
    exact ⟨rfl, th_rgI hP hv⟩
    
  refine th_ti (th_bF q1) ?_
  refine th_zne (tgt := 12) hx hb dX6_follow_5 (by decide) (by omega) (fun c_6 => by exfalso; omega) (fun c_6 => ?_)
  refine lv_iconst (v := nI 1) hx hb dX6_follow_8 (by decide) ?_
  refine lv_goto (tgt := 24) hx hb dX6_follow_9 (by decide) ?_
  refine th_callV hx hb hml hown hts ⟨hK, hN⟩ hl hS (hP 0 _ rfl) rfl (rest := []) (c_X6_goesWell l Y _ ro thr stp efr esz etr S.1 S.2.2.2.1 (hP.sub (ws' := [(ro 0, .inr (6, [.int thr, .ref (ro 1), .ref (ro 2), .int (nI S.1), .ref (ro 3), .ref (ro 4), .ref (ro 5), .int (nI S.2.2.2.1), .ref (ro 6), .ref (ro 7), .int stp, .int efr, .int esz, .int etr, .ref (ro 8), .ref (ro 9), .ref (ro 10), .ref (ro 11), .ref (ro 12), .ref (ro 13), .ref (ro 14), .ref (ro 15)]))]) [0] rfl) 1 (by omega)) ok_X6_goesWell tw_4_1 dX6_follow_24 rfl rfl (Nat.le_of_ble_eq_true rfl) ⟨Nat.le_of_ble_eq_true rfl, Nat.le_of_ble_eq_true rfl⟩ ⟨Nat.le_of_ble_eq_true rfl, Nat.le_of_ble_eq_true rfl⟩ (th_subL [0] rfl) (th_ki (fun rz9 H locs hp hsm hS => ?_))
  obtain ⟨hrz, hPc⟩ := hp
  have hP : va_P Y.1 vwCl [(ro 0, .inr (6, [.int (nI 1), .ref (ro 1), .ref (ro 2), .int (nI S.1), .ref (ro 3), .ref (ro 4), .ref (ro 5), .int (nI S.2.2.2.1), .ref (ro 6), .ref (ro 7), .int stp, .int efr, .int esz, .int etr, .ref (ro 8), .ref (ro 9), .ref (ro 10), .ref (ro 11), .ref (ro 12), .ref (ro 13), .ref (ro 14), .ref (ro 15)])), (ro 1, .inl (Y.2 0, 300, .inl val)), (ro 2, .inl (Y.2 0, 3, .inl siz)), (ro 3, .inl (Y.2 0, 8, .inl tre)), (ro 4, .inl (Y.2 0, 8, .inl spa)), (ro 5, .inl (Y.2 0, 12, .inl pro)), (ro 6, .inl (Y.2 0, 12, .inl bes)), (ro 7, .inl (Y.2 1, 12, .inl isr)), (ro 8, .inl (Y.2 0, 64, .inl key)), (ro 9, .inl (Y.2 0, 64, .inl lev)), (ro 10, .inl (Y.2 0, 4, .inl kvi)), (ro 11, .inl (Y.2 0, 4, .inl ksz)), (ro 12, .inl (Y.2 0, 4, .inl krt)), (ro 13, .inl (Y.2 1, 4, .inl ala)), (ro 14, .inl (Y.2 0, 4, .inl fol)), (ro 15, .inl (Y.2 0, 4, .inl cts))] _ := (th_join (wr := [(ro 1, .inl (Y.2 0, 300, .inl val)), (ro 2, .inl (Y.2 0, 3, .inl siz)), (ro 3, .inl (Y.2 0, 8, .inl tre)), (ro 4, .inl (Y.2 0, 8, .inl spa)), (ro 5, .inl (Y.2 0, 12, .inl pro)), (ro 6, .inl (Y.2 0, 12, .inl bes)), (ro 7, .inl (Y.2 1, 12, .inl isr)), (ro 8, .inl (Y.2 0, 64, .inl key)), (ro 9, .inl (Y.2 0, 64, .inl lev)), (ro 10, .inl (Y.2 0, 4, .inl kvi)), (ro 11, .inl (Y.2 0, 4, .inl ksz)), (ro 12, .inl (Y.2 0, 4, .inl krt)), (ro 13, .inl (Y.2 1, 4, .inl ala)), (ro 14, .inl (Y.2 0, 4, .inl fol)), (ro 15, .inl (Y.2 0, 4, .inl cts))]) hP hD [1, 2, 3, 4, 5, 6, 7, 8, 9, 10, 11, 12, 13, 14, 15] [0] rfl rfl (by decide) hsm hPc).sub [15, 0, 1, 2, 3, 4, 5, 6, 7, 8, 9, 10, 11, 12, 13, 14] rfl
  have hD : va_D _ [(ro 0, .inr (6, [.int (nI 1), .ref (ro 1), .ref (ro 2), .int (nI S.1), .ref (ro 3), .ref (ro 4), .ref (ro 5), .int (nI S.2.2.2.1), .ref (ro 6), .ref (ro 7), .int stp, .int efr, .int esz, .int etr, .ref (ro 8), .ref (ro 9), .ref (ro 10), .ref (ro 11), .ref (ro 12), .ref (ro 13), .ref (ro 14), .ref (ro 15)])), (ro 1, .inl (Y.2 0, 300, .inl val)), (ro 2, .inl (Y.2 0, 3, .inl siz)), (ro 3, .inl (Y.2 0, 8, .inl tre)), (ro 4, .inl (Y.2 0, 8, .inl spa)), (ro 5, .inl (Y.2 0, 12, .inl pro)), (ro 6, .inl (Y.2 0, 12, .inl bes)), (ro 7, .inl (Y.2 1, 12, .inl isr)), (ro 8, .inl (Y.2 0, 64, .inl key)), (ro 9, .inl (Y.2 0, 64, .inl lev)), (ro 10, .inl (Y.2 0, 4, .inl kvi)), (ro 11, .inl (Y.2 0, 4, .inl ksz)), (ro 12, .inl (Y.2 0, 4, .inl krt)), (ro 13, .inl (Y.2 1, 4, .inl ala)), (ro 14, .inl (Y.2 0, 4, .inl fol)), (ro 15, .inl (Y.2 0, 4, .inl cts))] := th_Dsame hD rfl
  obtain rfl : rz9 = nI 0 := by rw [hrz]; rfl
  refine th_zeq (tgt := 44) hx hb dX6_follow_27 (by decide) (by omega) (fun c_7 => ?_) (fun c_7 => by exfalso; omega)
  refine th_vret hx hb hr hlk hQ hS dX6_follow_44 (Nat.le_of_ble_eq_true rfl) (Nat.le_of_ble_eq_true rfl) ?_
  show th_rv Y ro (_) _ _
  unfold sp_follow
  rw [th_ifF (fun z9 => q1 z9)]
  exact ⟨rfl, th_rgI hP hv⟩
  

set_option maxRecDepth 100000 in
set_option maxHeartbeats 800000 in
theorem c_X6_shorten (l : Launch) (Y : th_Y) (H0 : Heap) (ro : Nat → Nat) (hJ : th_gJ ro 16) (S : th_S) (thr stp efr esz etr : Int32) (val siz tre spa pro bes isr key lev kvi ksz krt ala fol cts : Nat → Int32) (hP : va_P Y.1 vwCl [(ro 0, .inr (6, [.int thr, .ref (ro 1), .ref (ro 2), .int (nI S.1), .ref (ro 3), .ref (ro 4), .ref (ro 5), .int (nI S.2.2.2.1), .ref (ro 6), .ref (ro 7), .int stp, .int efr, .int esz, .int etr, .ref (ro 8), .ref (ro 9), .ref (ro 10), .ref (ro 11), .ref (ro 12), .ref (ro 13), .ref (ro 14), .ref (ro 15)])), (ro 1, .inl (Y.2 0, 300, .inl val)), (ro 2, .inl (Y.2 0, 3, .inl siz)), (ro 3, .inl (Y.2 0, 8, .inl tre)), (ro 4, .inl (Y.2 0, 8, .inl spa)), (ro 5, .inl (Y.2 0, 12, .inl pro)), (ro 6, .inl (Y.2 0, 12, .inl bes)), (ro 7, .inl (Y.2 1, 12, .inl isr)), (ro 8, .inl (Y.2 0, 64, .inl key)), (ro 9, .inl (Y.2 0, 64, .inl lev)), (ro 10, .inl (Y.2 0, 4, .inl kvi)), (ro 11, .inl (Y.2 0, 4, .inl ksz)), (ro 12, .inl (Y.2 0, 4, .inl krt)), (ro 13, .inl (Y.2 1, 4, .inl ala)), (ro 14, .inl (Y.2 0, 4, .inl fol)), (ro 15, .inl (Y.2 0, 4, .inl cts))] H0) (hv : th_RIv S val siz pro key kvi ksz krt ala fol cts) : th_M l Y yX6_shorten cX6_shorten 1 (some .int) (th_rm 6 0 0) [.ref (ro 0)] H0 (fun z => z ∈ [ro 0, ro 1, ro 2, ro 3, ro 4, ro 5, ro 6, ro 7, ro 8, ro 9, ro 10, ro 11, ro 12, ro 13, ro 14, ro 15]) (th_ro Y ro (sp_shorten S)) := by
  refine th_M.intro (by decide) (Nat.le_of_ble_eq_true rfl) ?_
  intro p e s m args below meth c ls Q hQ C hKN hl hS
  obtain ⟨hx, hb, hr, hml, hown, hts, hlk, hnm⟩ := C
  obtain ⟨hK, hN⟩ := hKN
  have hown : s.vm.findClass RX6 = some m.cls := hown
  have hl : lv_has ls 1 [(0, .ref (ro 0))] := hl
  have hD : va_D (fun z => z ∈ [ro 0, ro 1, ro 2, ro 3, ro 4, ro 5, ro 6, ro 7, ro 8, ro 9, ro 10, ro 11, ro 12, ro 13, ro 14, ro 15]) [(ro 0, .inr (6, [.int thr, .ref (ro 1), .ref (ro 2), .int (nI S.1), .ref (ro 3), .ref (ro 4), .ref (ro 5), .int (nI S.2.2.2.1), .ref (ro 6), .ref (ro 7), .int stp, .int efr, .int esz, .int etr, .ref (ro 8), .ref (ro 9), .ref (ro 10), .ref (ro 11), .ref (ro 12), .ref (ro 13), .ref (ro 14), .ref (ro 15)])), (ro 1, .inl (Y.2 0, 300, .inl val)), (ro 2, .inl (Y.2 0, 3, .inl siz)), (ro 3, .inl (Y.2 0, 8, .inl tre)), (ro 4, .inl (Y.2 0, 8, .inl spa)), (ro 5, .inl (Y.2 0, 12, .inl pro)), (ro 6, .inl (Y.2 0, 12, .inl bes)), (ro 7, .inl (Y.2 1, 12, .inl isr)), (ro 8, .inl (Y.2 0, 64, .inl key)), (ro 9, .inl (Y.2 0, 64, .inl lev)), (ro 10, .inl (Y.2 0, 4, .inl kvi)), (ro 11, .inl (Y.2 0, 4, .inl ksz)), (ro 12, .inl (Y.2 0, 4, .inl krt)), (ro 13, .inl (Y.2 1, 4, .inl ala)), (ro 14, .inl (Y.2 0, 4, .inl fol)), (ro 15, .inl (Y.2 0, 4, .inl cts))] := th_mem (th_gD hJ [0, 1, 2, 3, 4, 5, 6, 7, 8, 9, 10, 11, 12, 13, 14, 15] (fun k9 hk9 => by simp only [List.mem_cons, List.not_mem_nil, or_false] at hk9; omega) th_nd16 rfl)
  have hv1 := hv.1
  have hv12 := hv.2.2.1
  refine lv_aload_n hx hb dX6_shorten_0 rfl (lv_at hl 0 rfl) ?_
  refine lv_aload_n hx hb dX6_shorten_1 rfl (lv_at hl 0 rfl) ?_
  refine va_get (D := Y.1) (ci := 6) (v := .int (nI S.2.2.2.1)) (C := RX6) (T := TX6) (N := 22) hx hb hts inX6 hown hK hP 0 rfl rfl 7 (by decide) (hts _ tw_3_162) (fun _ h9 => h9) rfl dX6_shorten_2 ?_
  refine th_zne (tgt := 12) hx hb dX6_shorten_5 (by decide) (by omega) (fun c_1 => ?_) (fun c_1 => ?_)
  · skip
    have q1 : 1 ≤ S.2.2.2.1 := by omega
    refine lv_iconst (v := nI 0) hx hb dX6_shorten_12 (by decide) ?_
    refine th_callV hx hb hml hown hts ⟨hK, hN⟩ hl hS (hP 0 _ rfl) rfl (rest := []) (c_X6_goesWell l Y _ ro thr stp efr esz etr S.1 S.2.2.2.1 (hP.sub (ws' := [(ro 0, .inr (6, [.int thr, .ref (ro 1), .ref (ro 2), .int (nI S.1), .ref (ro 3), .ref (ro 4), .ref (ro 5), .int (nI S.2.2.2.1), .ref (ro 6), .ref (ro 7), .int stp, .int efr, .int esz, .int etr, .ref (ro 8), .ref (ro 9), .ref (ro 10), .ref (ro 11), .ref (ro 12), .ref (ro 13), .ref (ro 14), .ref (ro 15)]))]) [0] rfl) 0 (by omega)) ok_X6_goesWell tw_4_1 dX6_shorten_13 rfl rfl (Nat.le_of_ble_eq_true rfl) ⟨Nat.le_of_ble_eq_true rfl, Nat.le_of_ble_eq_true rfl⟩ ⟨Nat.le_of_ble_eq_true rfl, Nat.le_of_ble_eq_true rfl⟩ (th_subL [0] rfl) (th_ki (fun rz9 H locs hp hsm hS => ?_))
    obtain ⟨hrz, hPc⟩ := hp
    have hP : va_P Y.1 vwCl [(ro 0, .inr (6, [.int (nI 0), .ref (ro 1), .ref (ro 2), .int (nI S.1), .ref (ro 3), .ref (ro 4), .ref (ro 5), .int (nI S.2.2.2.1), .ref (ro 6), .ref (ro 7), .int stp, .int efr, .int esz, .int etr, .ref (ro 8), .ref (ro 9), .ref (ro 10), .ref (ro 11), .ref (ro 12), .ref (ro 13), .ref (ro 14), .ref (ro 15)])), (ro 1, .inl (Y.2 0, 300, .inl val)), (ro 2, .inl (Y.2 0, 3, .inl siz)), (ro 3, .inl (Y.2 0, 8, .inl tre)), (ro 4, .inl (Y.2 0, 8, .inl spa)), (ro 5, .inl (Y.2 0, 12, .inl pro)), (ro 6, .inl (Y.2 0, 12, .inl bes)), (ro 7, .inl (Y.2 1, 12, .inl isr)), (ro 8, .inl (Y.2 0, 64, .inl key)), (ro 9, .inl (Y.2 0, 64, .inl lev)), (ro 10, .inl (Y.2 0, 4, .inl kvi)), (ro 11, .inl (Y.2 0, 4, .inl ksz)), (ro 12, .inl (Y.2 0, 4, .inl krt)), (ro 13, .inl (Y.2 1, 4, .inl ala)), (ro 14, .inl (Y.2 0, 4, .inl fol)), (ro 15, .inl (Y.2 0, 4, .inl cts))] _ := (th_join (wr := [(ro 1, .inl (Y.2 0, 300, .inl val)), (ro 2, .inl (Y.2 0, 3, .inl siz)), (ro 3, .inl (Y.2 0, 8, .inl tre)), (ro 4, .inl (Y.2 0, 8, .inl spa)), (ro 5, .inl (Y.2 0, 12, .inl pro)), (ro 6, .inl (Y.2 0, 12, .inl bes)), (ro 7, .inl (Y.2 1, 12, .inl isr)), (ro 8, .inl (Y.2 0, 64, .inl key)), (ro 9, .inl (Y.2 0, 64, .inl lev)), (ro 10, .inl (Y.2 0, 4, .inl kvi)), (ro 11, .inl (Y.2 0, 4, .inl ksz)), (ro 12, .inl (Y.2 0, 4, .inl krt)), (ro 13, .inl (Y.2 1, 4, .inl ala)), (ro 14, .inl (Y.2 0, 4, .inl fol)), (ro 15, .inl (Y.2 0, 4, .inl cts))]) hP hD [1, 2, 3, 4, 5, 6, 7, 8, 9, 10, 11, 12, 13, 14, 15] [0] rfl rfl (by decide) hsm hPc).sub [15, 0, 1, 2, 3, 4, 5, 6, 7, 8, 9, 10, 11, 12, 13, 14] rfl
    have hD : va_D _ [(ro 0, .inr (6, [.int (nI 0), .ref (ro 1), .ref (ro 2), .int (nI S.1), .ref (ro 3), .ref (ro 4), .ref (ro 5), .int (nI S.2.2.2.1), .ref (ro 6), .ref (ro 7), .int stp, .int efr, .int esz, .int etr, .ref (ro 8), .ref (ro 9), .ref (ro 10), .ref (ro 11), .ref (ro 12), .ref (ro 13), .ref (ro 14), .ref (ro 15)])), (ro 1, .inl (Y.2 0, 300, .inl val)), (ro 2, .inl (Y.2 0, 3, .inl siz)), (ro 3, .inl (Y.2 0, 8, .inl tre)), (ro 4, .inl (Y.2 0, 8, .inl spa)), (ro 5, .inl (Y.2 0, 12, .inl pro)), (ro 6, .inl (Y.2 0, 12, .inl bes)), (ro 7, .inl (Y.2 1, 12, .inl isr)), (ro 8, .inl (Y.2 0, 64, .inl key)), (ro 9, .inl (Y.2 0, 64, .inl lev)), (ro 10, .inl (Y.2 0, 4, .inl kvi)), (ro 11, .inl (Y.2 0, 4, .inl ksz)), (ro 12, .inl (Y.2 0, 4, .inl krt)), (ro 13, .inl (Y.2 1, 4, .inl ala)), (ro 14, .inl (Y.2 0, 4, .inl fol)), (ro 15, .inl (Y.2 0, 4, .inl cts))] := th_Dsame hD rfl
    obtain rfl : rz9 = nI 1 := by rw [hrz]; rfl
    refine th_zne (tgt := 21) hx hb dX6_shorten_16 (by decide) (by omega) (fun c_2 => ?_) (fun c_2 => by exfalso; omega)
    refine lv_aload_n hx hb dX6_shorten_21 rfl (lv_at hl 0 rfl) ?_
    refine lv_dup hx hb dX6_shorten_22 rfl ?_
    refine va_get (D := Y.1) (ci := 6) (v := .int (nI S.2.2.2.1)) (C := RX6) (T := TX6) (N := 22) hx hb hts inX6 hown hK hP 0 rfl rfl 7 (by decide) (hts _ tw_3_162) (fun _ h9 => h9) rfl dX6_shorten_23 ?_
    refine lv_iconst (v := nI 1) hx hb dX6_shorten_26 (by decide) ?_
    refine lv_isub hx hb dX6_shorten_27 ?_
    refine th_ti (pk_sub (by omega)) ?_
    refine va_put (D := Y.1) (ci := 6) (v := .int (nI (S.2.2.2.1 - 1))) (ty := .int) (C := RX6) (T := TX6) (N := 22) hx hb hts inX6 tyX6 tyX6_ok nmX6 hown hK hP hD hS 0 rfl rfl 7 (by decide) (hts _ tw_3_162) (fun _ h9 => h9) rfl (by decide +kernel) rfl rfl (Nat.le_of_ble_eq_true rfl) dX6_shorten_28 (fun H locs hP hD hS => ?_)
    have hP : va_P Y.1 vwCl [(ro 0, .inr (6, [.int (nI 0), .ref (ro 1), .ref (ro 2), .int (nI S.1), .ref (ro 3), .ref (ro 4), .ref (ro 5), .int (nI (S.2.2.2.1 - 1)), .ref (ro 6), .ref (ro 7), .int stp, .int efr, .int esz, .int etr, .ref (ro 8), .ref (ro 9), .ref (ro 10), .ref (ro 11), .ref (ro 12), .ref (ro 13), .ref (ro 14), .ref (ro 15)])), (ro 1, .inl (Y.2 0, 300, .inl val)), (ro 2, .inl (Y.2 0, 3, .inl siz)), (ro 3, .inl (Y.2 0, 8, .inl tre)), (ro 4, .inl (Y.2 0, 8, .inl spa)), (ro 5, .inl (Y.2 0, 12, .inl pro)), (ro 6, .inl (Y.2 0, 12, .inl bes)), (ro 7, .inl (Y.2 1, 12, .inl isr)), (ro 8, .inl (Y.2 0, 64, .inl key)), (ro 9, .inl (Y.2 0, 64, .inl lev)), (ro 10, .inl (Y.2 0, 4, .inl kvi)), (ro 11, .inl (Y.2 0, 4, .inl ksz)), (ro 12, .inl (Y.2 0, 4, .inl krt)), (ro 13, .inl (Y.2 1, 4, .inl ala)), (ro 14, .inl (Y.2 0, 4, .inl fol)), (ro 15, .inl (Y.2 0, 4, .inl cts))] _ := hP
    have hD : va_D _ [(ro 0, .inr (6, [.int (nI 0), .ref (ro 1), .ref (ro 2), .int (nI S.1), .ref (ro 3), .ref (ro 4), .ref (ro 5), .int (nI (S.2.2.2.1 - 1)), .ref (ro 6), .ref (ro 7), .int stp, .int efr, .int esz, .int etr, .ref (ro 8), .ref (ro 9), .ref (ro 10), .ref (ro 11), .ref (ro 12), .ref (ro 13), .ref (ro 14), .ref (ro 15)])), (ro 1, .inl (Y.2 0, 300, .inl val)), (ro 2, .inl (Y.2 0, 3, .inl siz)), (ro 3, .inl (Y.2 0, 8, .inl tre)), (ro 4, .inl (Y.2 0, 8, .inl spa)), (ro 5, .inl (Y.2 0, 12, .inl pro)), (ro 6, .inl (Y.2 0, 12, .inl bes)), (ro 7, .inl (Y.2 1, 12, .inl isr)), (ro 8, .inl (Y.2 0, 64, .inl key)), (ro 9, .inl (Y.2 0, 64, .inl lev)), (ro 10, .inl (Y.2 0, 4, .inl kvi)), (ro 11, .inl (Y.2 0, 4, .inl ksz)), (ro 12, .inl (Y.2 0, 4, .inl krt)), (ro 13, .inl (Y.2 1, 4, .inl ala)), (ro 14, .inl (Y.2 0, 4, .inl fol)), (ro 15, .inl (Y.2 0, 4, .inl cts))] := hD
    refine lv_aload_n hx hb dX6_shorten_31 rfl (lv_at hl 0 rfl) ?_
    refine va_get (D := Y.1) (ci := 6) (v := .ref (ro 5)) (C := RX6) (T := TX6) (N := 22) hx hb hts inX6 hown hK hP 0 rfl rfl 6 (by decide) (hts _ tw_3_161) (fun _ h9 => h9) rfl dX6_shorten_32 ?_
    refine lv_aload_n hx hb dX6_shorten_35 rfl (lv_at hl 0 rfl) ?_
    refine va_get (D := Y.1) (ci := 6) (v := .int (nI (S.2.2.2.1 - 1))) (C := RX6) (T := TX6) (N := 22) hx hb hts inX6 hown hK hP 0 rfl rfl 7 (by decide) (hts _ tw_3_162) (fun _ h9 => h9) rfl dX6_shorten_36 ?_
    refine th_iald hx hb hK hP 5 rfl (j := (S.2.2.2.1 - 1)) (by omega) (by omega) dX6_shorten_39 ?_
    refine th_iret hx hb hr hlk hQ hS dX6_shorten_40 (Nat.le_of_ble_eq_true rfl) (Nat.le_of_ble_eq_true rfl) ?_
    show th_ro Y ro (_) _ _
    unfold sp_shorten
    rw [th_ifT q1]
    exact th_roT (hv.2.2.2.1 _ (by omega)) (th_rgI hP (th_RvD hv (by omega) (fun j9 hj9 => hv.2.2.2.1 j9 (by omega))))
    
  have q1 : ¬ (1 ≤ S.2.2.2.1) := by omega
  refine lv_iconst (v := nI 1) hx hb dX6_shorten_8 (by decide) ?_
  refine lv_goto (tgt := 13) hx hb dX6_shorten_9 (by decide) ?_
  refine th_callV hx hb hml hown hts ⟨hK, hN⟩ hl hS (hP 0 _ rfl) rfl (rest := []) (c_X6_goesWell l Y _ ro thr stp efr esz etr S.1 S.2.2.2.1 (hP.sub (ws' := [(ro 0, .inr (6, [.int thr, .ref (ro 1), .ref (ro 2), .int (nI S.1), .ref (ro 3), .ref (ro 4), .ref (ro 5), .int (nI S.2.2.2.1), .ref (ro 6), .ref (ro 7), .int stp, .int efr, .int esz, .int etr, .ref (ro 8), .ref (ro 9), .ref (ro 10), .ref (ro 11), .ref (ro 12), .ref (ro 13), .ref (ro 14), .ref (ro 15)]))]) [0] rfl) 1 (by omega)) ok_X6_goesWell tw_4_1 dX6_shorten_13 rfl rfl (Nat.le_of_ble_eq_true rfl) ⟨Nat.le_of_ble_eq_true rfl, Nat.le_of_ble_eq_true rfl⟩ ⟨Nat.le_of_ble_eq_true rfl, Nat.le_of_ble_eq_true rfl⟩ (th_subL [0] rfl) (th_ki (fun rz9 H locs hp hsm hS => ?_))
  obtain ⟨hrz, hPc⟩ := hp
  have hP : va_P Y.1 vwCl [(ro 0, .inr (6, [.int (nI 1), .ref (ro 1), .ref (ro 2), .int (nI S.1), .ref (ro 3), .ref (ro 4), .ref (ro 5), .int (nI S.2.2.2.1), .ref (ro 6), .ref (ro 7), .int stp, .int efr, .int esz, .int etr, .ref (ro 8), .ref (ro 9), .ref (ro 10), .ref (ro 11), .ref (ro 12), .ref (ro 13), .ref (ro 14), .ref (ro 15)])), (ro 1, .inl (Y.2 0, 300, .inl val)), (ro 2, .inl (Y.2 0, 3, .inl siz)), (ro 3, .inl (Y.2 0, 8, .inl tre)), (ro 4, .inl (Y.2 0, 8, .inl spa)), (ro 5, .inl (Y.2 0, 12, .inl pro)), (ro 6, .inl (Y.2 0, 12, .inl bes)), (ro 7, .inl (Y.2 1, 12, .inl isr)), (ro 8, .inl (Y.2 0, 64, .inl key)), (ro 9, .inl (Y.2 0, 64, .inl lev)), (ro 10, .inl (Y.2 0, 4, .inl kvi)), (ro 11, .inl (Y.2 0, 4, .inl ksz)), (ro 12, .inl (Y.2 0, 4, .inl krt)), (ro 13, .inl (Y.2 1, 4, .inl ala)), (ro 14, .inl (Y.2 0, 4, .inl fol)), (ro 15, .inl (Y.2 0, 4, .inl cts))] _ := (th_join (wr := [(ro 1, .inl (Y.2 0, 300, .inl val)), (ro 2, .inl (Y.2 0, 3, .inl siz)), (ro 3, .inl (Y.2 0, 8, .inl tre)), (ro 4, .inl (Y.2 0, 8, .inl spa)), (ro 5, .inl (Y.2 0, 12, .inl pro)), (ro 6, .inl (Y.2 0, 12, .inl bes)), (ro 7, .inl (Y.2 1, 12, .inl isr)), (ro 8, .inl (Y.2 0, 64, .inl key)), (ro 9, .inl (Y.2 0, 64, .inl lev)), (ro 10, .inl (Y.2 0, 4, .inl kvi)), (ro 11, .inl (Y.2 0, 4, .inl ksz)), (ro 12, .inl (Y.2 0, 4, .inl krt)), (ro 13, .inl (Y.2 1, 4, .inl ala)), (ro 14, .inl (Y.2 0, 4, .inl fol)), (ro 15, .inl (Y.2 0, 4, .inl cts))]) hP hD [1, 2, 3, 4, 5, 6, 7, 8, 9, 10, 11, 12, 13, 14, 15] [0] rfl rfl (by decide) hsm hPc).sub [15, 0, 1, 2, 3, 4, 5, 6, 7, 8, 9, 10, 11, 12, 13, 14] rfl
  have hD : va_D _ [(ro 0, .inr (6, [.int (nI 1), .ref (ro 1), .ref (ro 2), .int (nI S.1), .ref (ro 3), .ref (ro 4), .ref (ro 5), .int (nI S.2.2.2.1), .ref (ro 6), .ref (ro 7), .int stp, .int efr, .int esz, .int etr, .ref (ro 8), .ref (ro 9), .ref (ro 10), .ref (ro 11), .ref (ro 12), .ref (ro 13), .ref (ro 14), .ref (ro 15)])), (ro 1, .inl (Y.2 0, 300, .inl val)), (ro 2, .inl (Y.2 0, 3, .inl siz)), (ro 3, .inl (Y.2 0, 8, .inl tre)), (ro 4, .inl (Y.2 0, 8, .inl spa)), (ro 5, .inl (Y.2 0, 12, .inl pro)), (ro 6, .inl (Y.2 0, 12, .inl bes)), (ro 7, .inl (Y.2 1, 12, .inl isr)), (ro 8, .inl (Y.2 0, 64, .inl key)), (ro 9, .inl (Y.2 0, 64, .inl lev)), (ro 10, .inl (Y.2 0, 4, .inl kvi)), (ro 11, .inl (Y.2 0, 4, .inl ksz)), (ro 12, .inl (Y.2 0, 4, .inl krt)), (ro 13, .inl (Y.2 1, 4, .inl ala)), (ro 14, .inl (Y.2 0, 4, .inl fol)), (ro 15, .inl (Y.2 0, 4, .inl cts))] := th_Dsame hD rfl
  obtain rfl : rz9 = nI 0 := by rw [hrz]; rfl
  refine th_zne (tgt := 21) hx hb dX6_shorten_16 (by decide) (by omega) (fun c_3 => by exfalso; omega) (fun c_3 => ?_)
  refine lv_iconst (v := nI 0) hx hb dX6_shorten_19 (by decide) ?_
  refine th_iret hx hb hr hlk hQ hS dX6_shorten_20 (Nat.le_of_ble_eq_true rfl) (Nat.le_of_ble_eq_true rfl) ?_
  show th_ro Y ro (_) _ _
  unfold sp_shorten
  rw [th_ifF (fun z9 => q1 z9)]
  exact th_roF (by decide) (th_rgI hP hv)
  

set_option maxRecDepth 100000 in
set_option maxHeartbeats 800000 in
theorem c_X6_change (l : Launch) (Y : th_Y) (H0 : Heap) (ro : Nat → Nat) (hJ : th_gJ ro 16) (S : th_S) (thr stp efr esz etr : Int32) (val siz tre spa pro bes isr key lev kvi ksz krt ala fol cts : Nat → Int32) (hP : va_P Y.1 vwCl [(ro 0, .inr (6, [.int thr, .ref (ro 1), .ref (ro 2), .int (nI S.1), .ref (ro 3), .ref (ro 4), .ref (ro 5), .int (nI S.2.2.2.1), .ref (ro 6), .ref (ro 7), .int stp, .int efr, .int esz, .int etr, .ref (ro 8), .ref (ro 9), .ref (ro 10), .ref (ro 11), .ref (ro 12), .ref (ro 13), .ref (ro 14), .ref (ro 15)])), (ro 1, .inl (Y.2 0, 300, .inl val)), (ro 2, .inl (Y.2 0, 3, .inl siz)), (ro 3, .inl (Y.2 0, 8, .inl tre)), (ro 4, .inl (Y.2 0, 8, .inl spa)), (ro 5, .inl (Y.2 0, 12, .inl pro)), (ro 6, .inl (Y.2 0, 12, .inl bes)), (ro 7, .inl (Y.2 1, 12, .inl isr)), (ro 8, .inl (Y.2 0, 64, .inl key)), (ro 9, .inl (Y.2 0, 64, .inl lev)), (ro 10, .inl (Y.2 0, 4, .inl kvi)), (ro 11, .inl (Y.2 0, 4, .inl ksz)), (ro 12, .inl (Y.2 0, 4, .inl krt)), (ro 13, .inl (Y.2 1, 4, .inl ala)), (ro 14, .inl (Y.2 0, 4, .inl fol)), (ro 15, .inl (Y.2 0, 4, .inl cts))] H0) (hv : th_RIv S val siz pro key kvi ksz krt ala fol cts) (x1 x2 : Int32) : th_M l Y yX6_change cX6_change 3 (some .int) (th_rm 6 0 0) [.ref (ro 0), .int x1, .int x2] H0 (fun z => z ∈ [ro 0, ro 1, ro 2, ro 3, ro 4, ro 5, ro 6, ro 7, ro 8, ro 9, ro 10, ro 11, ro 12, ro 13, ro 14, ro 15]) (th_ro Y ro (sp_change S x1 x2)) := by
  refine th_M.intro (by decide) (Nat.le_of_ble_eq_true rfl) ?_
  intro p e s m args below meth c ls Q hQ C hKN hl hS
  obtain ⟨hx, hb, hr, hml, hown, hts, hlk, hnm⟩ := C
  obtain ⟨hK, hN⟩ := hKN
  have hown : s.vm.findClass RX6 = some m.cls := hown
  have hl : lv_has ls 3 [(0, .ref (ro 0)), (1, .int x1), (2, .int x2)] := hl
  have hD : va_D (fun z => z ∈ [ro 0, ro 1, ro 2, ro 3, ro 4, ro 5, ro 6, ro 7, ro 8, ro 9, ro 10, ro 11, ro 12, ro 13, ro 14, ro 15]) [(ro 0, .inr (6, [.int thr, .ref (ro 1), .ref (ro 2), .int (nI S.1), .ref (ro 3), .ref (ro 4), .ref (ro 5), .int (nI S.2.2.2.1), .ref (ro 6), .ref (ro 7), .int stp, .int efr, .int esz, .int etr, .ref (ro 8), .ref (ro 9), .ref (ro 10), .ref (ro 11), .ref (ro 12), .ref (ro 13), .ref (ro 14), .ref (ro 15)])), (ro 1, .inl (Y.2 0, 300, .inl val)), (ro 2, .inl (Y.2 0, 3, .inl siz)), (ro 3, .inl (Y.2 0, 8, .inl tre)), (ro 4, .inl (Y.2 0, 8, .inl spa)), (ro 5, .inl (Y.2 0, 12, .inl pro)), (ro 6, .inl (Y.2 0, 12, .inl bes)), (ro 7, .inl (Y.2 1, 12, .inl isr)), (ro 8, .inl (Y.2 0, 64, .inl key)), (ro 9, .inl (Y.2 0, 64, .inl lev)), (ro 10, .inl (Y.2 0, 4, .inl kvi)), (ro 11, .inl (Y.2 0, 4, .inl ksz)), (ro 12, .inl (Y.2 0, 4, .inl krt)), (ro 13, .inl (Y.2 1, 4, .inl ala)), (ro 14, .inl (Y.2 0, 4, .inl fol)), (ro 15, .inl (Y.2 0, 4, .inl cts))] := th_mem (th_gD hJ [0, 1, 2, 3, 4, 5, 6, 7, 8, 9, 10, 11, 12, 13, 14, 15] (fun k9 hk9 => by simp only [List.mem_cons, List.not_mem_nil, or_false] at hk9; omega) th_nd16 rfl)
  have hv1 := hv.1
  have hv12 := hv.2.2.1
  refine lv_aload_n hx hb dX6_change_0 rfl (lv_at hl 0 rfl) ?_
  refine lv_iload_n hx hb dX6_change_1 rfl (lv_at hl 1 rfl) ?_
  refine lv_iconst (v := nI 0) hx hb dX6_change_2 (by decide) ?_
  refine lv_aload_n hx hb dX6_change_3 rfl (lv_at hl 0 rfl) ?_
  refine va_get (D := Y.1) (ci := 6) (v := .int (nI S.2.2.2.1)) (C := RX6) (T := TX6) (N := 22) hx hb hts inX6 hown hK hP 0 rfl rfl 7 (by decide) (hts _ tw_3_162) (fun _ h9 => h9) rfl dX6_change_4 ?_
  refine th_callS hx hb hml hown hts ⟨hK, hN⟩ hl hS (rest := [.ref (ro 0)]) (c_X6_in l Y _ x1 (nI 0) (nI S.2.2.2.1)) ok_X6_in tw_3_234 dX6_change_7 rfl rfl (Nat.le_of_ble_eq_true rfl) ⟨Nat.le_of_ble_eq_true rfl, Nat.le_of_ble_eq_true rfl⟩ ⟨Nat.le_of_ble_eq_true rfl, Nat.le_of_ble_eq_true rfl⟩ (fun _ h => h.elim) (th_kpi (fun locs hS => ?_))
  refine th_ti (th_bE (th_irP (by decide) (by omega))) ?_
  by_cases q1 : th_ir x1 0 (S.2.2.2.1 + 1)
  · refine th_ti (th_bT q1) ?_
    have uq9 := q1
    obtain ⟨j1, j1a, j1b, ux9⟩ := uq9
    subst ux9
    have zj1 : th_ix (nI j1) = j1 := th_ixN (by omega)
    refine th_zne (tgt := 17) hx hb dX6_change_10 (by decide) (by omega) (fun c_1 => ?_) (fun c_1 => by exfalso; omega)
    refine lv_iload_n hx hb dX6_change_17 rfl (lv_at hl 2 rfl) ?_
    refine lv_iconst (v := nI 0) hx hb dX6_change_18 (by decide) ?_
    refine lv_ldc hx hb hown (hts _ tw_4_102) dX6_change_19 ?_
    refine th_ti (show (1000002 : Int32) = nI 1000002 from rfl) ?_
    refine th_callS hx hb hml hown hts ⟨hK, hN⟩ hl hS (rest := [.ref (ro 0)]) (c_X6_in l Y _ x2 (nI 0) (nI 1000002)) ok_X6_in tw_3_234 dX6_change_21 rfl rfl (Nat.le_of_ble_eq_true rfl) ⟨Nat.le_of_ble_eq_true rfl, Nat.le_of_ble_eq_true rfl⟩ ⟨Nat.le_of_ble_eq_true rfl, Nat.le_of_ble_eq_true rfl⟩ (fun _ h => h.elim) (th_kpi (fun locs hS => ?_))
    refine th_ti (th_bE (th_irP (by decide) (by decide))) ?_
    by_cases q2 : th_ir x2 0 1000003
    · refine th_ti (th_bT q2) ?_
      have uq9 := q2
      obtain ⟨j2, j2a, j2b, ux9⟩ := uq9
      subst ux9
      have zj2 : th_ix (nI j2) = j2 := th_ixN (by omega)
      refine th_zne (tgt := 31) hx hb dX6_change_24 (by decide) (by omega) (fun c_2 => ?_) (fun c_2 => by exfalso; omega)
      refine lv_iload_n hx hb dX6_change_31 rfl (lv_at hl 1 rfl) ?_
      refine lv_bipush (v := nI 12) hx hb dX6_change_32 (by decide) ?_
      refine th_ine (tgt := 41) hx hb dX6_change_34 (by decide) (by omega) (by omega) (fun c_3 => ?_) (fun c_3 => ?_)
      · skip
        have q3 : j1 < 12 := by omega
        refine lv_iconst (v := nI 0) hx hb dX6_change_41 (by decide) ?_
        refine th_callV hx hb hml hown hts ⟨hK, hN⟩ hl hS (hP 0 _ rfl) rfl (rest := []) (c_X6_goesWell l Y _ ro thr stp efr esz etr S.1 S.2.2.2.1 (hP.sub (ws' := [(ro 0, .inr (6, [.int thr, .ref (ro 1), .ref (ro 2), .int (nI S.1), .ref (ro 3), .ref (ro 4), .ref (ro 5), .int (nI S.2.2.2.1), .ref (ro 6), .ref (ro 7), .int stp, .int efr, .int esz, .int etr, .ref (ro 8), .ref (ro 9), .ref (ro 10), .ref (ro 11), .ref (ro 12), .ref (ro 13), .ref (ro 14), .ref (ro 15)]))]) [0] rfl) 0 (by omega)) ok_X6_goesWell tw_4_1 dX6_change_42 rfl rfl (Nat.le_of_ble_eq_true rfl) ⟨Nat.le_of_ble_eq_true rfl, Nat.le_of_ble_eq_true rfl⟩ ⟨Nat.le_of_ble_eq_true rfl, Nat.le_of_ble_eq_true rfl⟩ (th_subL [0] rfl) (th_ki (fun rz9 H locs hp hsm hS => ?_))
        obtain ⟨hrz, hPc⟩ := hp
        have hP : va_P Y.1 vwCl [(ro 0, .inr (6, [.int (nI 0), .ref (ro 1), .ref (ro 2), .int (nI S.1), .ref (ro 3), .ref (ro 4), .ref (ro 5), .int (nI S.2.2.2.1), .ref (ro 6), .ref (ro 7), .int stp, .int efr, .int esz, .int etr, .ref (ro 8), .ref (ro 9), .ref (ro 10), .ref (ro 11), .ref (ro 12), .ref (ro 13), .ref (ro 14), .ref (ro 15)])), (ro 1, .inl (Y.2 0, 300, .inl val)), (ro 2, .inl (Y.2 0, 3, .inl siz)), (ro 3, .inl (Y.2 0, 8, .inl tre)), (ro 4, .inl (Y.2 0, 8, .inl spa)), (ro 5, .inl (Y.2 0, 12, .inl pro)), (ro 6, .inl (Y.2 0, 12, .inl bes)), (ro 7, .inl (Y.2 1, 12, .inl isr)), (ro 8, .inl (Y.2 0, 64, .inl key)), (ro 9, .inl (Y.2 0, 64, .inl lev)), (ro 10, .inl (Y.2 0, 4, .inl kvi)), (ro 11, .inl (Y.2 0, 4, .inl ksz)), (ro 12, .inl (Y.2 0, 4, .inl krt)), (ro 13, .inl (Y.2 1, 4, .inl ala)), (ro 14, .inl (Y.2 0, 4, .inl fol)), (ro 15, .inl (Y.2 0, 4, .inl cts))] _ := (th_join (wr := [(ro 1, .inl (Y.2 0, 300, .inl val)), (ro 2, .inl (Y.2 0, 3, .inl siz)), (ro 3, .inl (Y.2 0, 8, .inl tre)), (ro 4, .inl (Y.2 0, 8, .inl spa)), (ro 5, .inl (Y.2 0, 12, .inl pro)), (ro 6, .inl (Y.2 0, 12, .inl bes)), (ro 7, .inl (Y.2 1, 12, .inl isr)), (ro 8, .inl (Y.2 0, 64, .inl key)), (ro 9, .inl (Y.2 0, 64, .inl lev)), (ro 10, .inl (Y.2 0, 4, .inl kvi)), (ro 11, .inl (Y.2 0, 4, .inl ksz)), (ro 12, .inl (Y.2 0, 4, .inl krt)), (ro 13, .inl (Y.2 1, 4, .inl ala)), (ro 14, .inl (Y.2 0, 4, .inl fol)), (ro 15, .inl (Y.2 0, 4, .inl cts))]) hP hD [1, 2, 3, 4, 5, 6, 7, 8, 9, 10, 11, 12, 13, 14, 15] [0] rfl rfl (by decide) hsm hPc).sub [15, 0, 1, 2, 3, 4, 5, 6, 7, 8, 9, 10, 11, 12, 13, 14] rfl
        have hD : va_D _ [(ro 0, .inr (6, [.int (nI 0), .ref (ro 1), .ref (ro 2), .int (nI S.1), .ref (ro 3), .ref (ro 4), .ref (ro 5), .int (nI S.2.2.2.1), .ref (ro 6), .ref (ro 7), .int stp, .int efr, .int esz, .int etr, .ref (ro 8), .ref (ro 9), .ref (ro 10), .ref (ro 11), .ref (ro 12), .ref (ro 13), .ref (ro 14), .ref (ro 15)])), (ro 1, .inl (Y.2 0, 300, .inl val)), (ro 2, .inl (Y.2 0, 3, .inl siz)), (ro 3, .inl (Y.2 0, 8, .inl tre)), (ro 4, .inl (Y.2 0, 8, .inl spa)), (ro 5, .inl (Y.2 0, 12, .inl pro)), (ro 6, .inl (Y.2 0, 12, .inl bes)), (ro 7, .inl (Y.2 1, 12, .inl isr)), (ro 8, .inl (Y.2 0, 64, .inl key)), (ro 9, .inl (Y.2 0, 64, .inl lev)), (ro 10, .inl (Y.2 0, 4, .inl kvi)), (ro 11, .inl (Y.2 0, 4, .inl ksz)), (ro 12, .inl (Y.2 0, 4, .inl krt)), (ro 13, .inl (Y.2 1, 4, .inl ala)), (ro 14, .inl (Y.2 0, 4, .inl fol)), (ro 15, .inl (Y.2 0, 4, .inl cts))] := th_Dsame hD rfl
        obtain rfl : rz9 = nI 1 := by rw [hrz]; rfl
        refine th_zne (tgt := 50) hx hb dX6_change_45 (by decide) (by omega) (fun c_4 => ?_) (fun c_4 => by exfalso; omega)
        refine lv_aload_n hx hb dX6_change_50 rfl (lv_at hl 0 rfl) ?_
        refine va_get (D := Y.1) (ci := 6) (v := .ref (ro 5)) (C := RX6) (T := TX6) (N := 22) hx hb hts inX6 hown hK hP 0 rfl rfl 6 (by decide) (hts _ tw_3_161) (fun _ h9 => h9) rfl dX6_change_51 ?_
        refine lv_iload_n hx hb dX6_change_54 rfl (lv_at hl 1 rfl) ?_
        refine lv_iload_n hx hb dX6_change_55 rfl (lv_at hl 2 rfl) ?_
        refine th_iast hx hb hK hP hD hS 5 rfl (j := j1) (by omega) (by omega) dX6_change_56 (fun H locs hP hD hS => ?_)
        have hP : va_P Y.1 vwCl [(ro 0, .inr (6, [.int (nI 0), .ref (ro 1), .ref (ro 2), .int (nI S.1), .ref (ro 3), .ref (ro 4), .ref (ro 5), .int (nI S.2.2.2.1), .ref (ro 6), .ref (ro 7), .int stp, .int efr, .int esz, .int etr, .ref (ro 8), .ref (ro 9), .ref (ro 10), .ref (ro 11), .ref (ro 12), .ref (ro 13), .ref (ro 14), .ref (ro 15)])), (ro 1, .inl (Y.2 0, 300, .inl val)), (ro 2, .inl (Y.2 0, 3, .inl siz)), (ro 3, .inl (Y.2 0, 8, .inl tre)), (ro 4, .inl (Y.2 0, 8, .inl spa)), (ro 5, .inl (Y.2 0, 12, .inl (upd pro j1 (nI j2)))), (ro 6, .inl (Y.2 0, 12, .inl bes)), (ro 7, .inl (Y.2 1, 12, .inl isr)), (ro 8, .inl (Y.2 0, 64, .inl key)), (ro 9, .inl (Y.2 0, 64, .inl lev)), (ro 10, .inl (Y.2 0, 4, .inl kvi)), (ro 11, .inl (Y.2 0, 4, .inl ksz)), (ro 12, .inl (Y.2 0, 4, .inl krt)), (ro 13, .inl (Y.2 1, 4, .inl ala)), (ro 14, .inl (Y.2 0, 4, .inl fol)), (ro 15, .inl (Y.2 0, 4, .inl cts))] _ := hP
        have hD : va_D _ [(ro 0, .inr (6, [.int (nI 0), .ref (ro 1), .ref (ro 2), .int (nI S.1), .ref (ro 3), .ref (ro 4), .ref (ro 5), .int (nI S.2.2.2.1), .ref (ro 6), .ref (ro 7), .int stp, .int efr, .int esz, .int etr, .ref (ro 8), .ref (ro 9), .ref (ro 10), .ref (ro 11), .ref (ro 12), .ref (ro 13), .ref (ro 14), .ref (ro 15)])), (ro 1, .inl (Y.2 0, 300, .inl val)), (ro 2, .inl (Y.2 0, 3, .inl siz)), (ro 3, .inl (Y.2 0, 8, .inl tre)), (ro 4, .inl (Y.2 0, 8, .inl spa)), (ro 5, .inl (Y.2 0, 12, .inl (upd pro j1 (nI j2)))), (ro 6, .inl (Y.2 0, 12, .inl bes)), (ro 7, .inl (Y.2 1, 12, .inl isr)), (ro 8, .inl (Y.2 0, 64, .inl key)), (ro 9, .inl (Y.2 0, 64, .inl lev)), (ro 10, .inl (Y.2 0, 4, .inl kvi)), (ro 11, .inl (Y.2 0, 4, .inl ksz)), (ro 12, .inl (Y.2 0, 4, .inl krt)), (ro 13, .inl (Y.2 1, 4, .inl ala)), (ro 14, .inl (Y.2 0, 4, .inl fol)), (ro 15, .inl (Y.2 0, 4, .inl cts))] := hD
        refine lv_aload_n hx hb dX6_change_57 rfl (lv_at hl 0 rfl) ?_
        refine lv_iload_n hx hb dX6_change_58 rfl (lv_at hl 1 rfl) ?_
        refine lv_aload_n hx hb dX6_change_59 rfl (lv_at hl 0 rfl) ?_
        refine va_get (D := Y.1) (ci := 6) (v := .int (nI S.2.2.2.1)) (C := RX6) (T := TX6) (N := 22) hx hb hts inX6 hown hK hP 0 rfl rfl 7 (by decide) (hts _ tw_3_162) (fun _ h9 => h9) rfl dX6_change_60 ?_
        refine th_ine (tgt := 75) hx hb dX6_change_63 (by decide) (by omega) (by omega) (fun c_5 => ?_) (fun c_5 => ?_)
        · skip
          refine lv_aload_n hx hb dX6_change_75 rfl (lv_at hl 0 rfl) ?_
          refine va_get (D := Y.1) (ci := 6) (v := .int (nI S.2.2.2.1)) (C := RX6) (T := TX6) (N := 22) hx hb hts inX6 hown hK hP 0 rfl rfl 7 (by decide) (hts _ tw_3_162) (fun _ h9 => h9) rfl dX6_change_76 ?_
          refine va_put (D := Y.1) (ci := 6) (v := .int (nI S.2.2.2.1)) (ty := .int) (C := RX6) (T := TX6) (N := 22) hx hb hts inX6 tyX6 tyX6_ok nmX6 hown hK hP hD hS 0 rfl rfl 7 (by decide) (hts _ tw_3_162) (fun _ h9 => h9) rfl (by decide +kernel) rfl rfl (Nat.le_of_ble_eq_true rfl) dX6_change_79 (fun H locs hP hD hS => ?_)
          have hP : va_P Y.1 vwCl [(ro 0, .inr (6, [.int (nI 0), .ref (ro 1), .ref (ro 2), .int (nI S.1), .ref (ro 3), .ref (ro 4), .ref (ro 5), .int (nI S.2.2.2.1), .ref (ro 6), .ref (ro 7), .int stp, .int efr, .int esz, .int etr, .ref (ro 8), .ref (ro 9), .ref (ro 10), .ref (ro 11), .ref (ro 12), .ref (ro 13), .ref (ro 14), .ref (ro 15)])), (ro 1, .inl (Y.2 0, 300, .inl val)), (ro 2, .inl (Y.2 0, 3, .inl siz)), (ro 3, .inl (Y.2 0, 8, .inl tre)), (ro 4, .inl (Y.2 0, 8, .inl spa)), (ro 5, .inl (Y.2 0, 12, .inl (upd pro j1 (nI j2)))), (ro 6, .inl (Y.2 0, 12, .inl bes)), (ro 7, .inl (Y.2 1, 12, .inl isr)), (ro 8, .inl (Y.2 0, 64, .inl key)), (ro 9, .inl (Y.2 0, 64, .inl lev)), (ro 10, .inl (Y.2 0, 4, .inl kvi)), (ro 11, .inl (Y.2 0, 4, .inl ksz)), (ro 12, .inl (Y.2 0, 4, .inl krt)), (ro 13, .inl (Y.2 1, 4, .inl ala)), (ro 14, .inl (Y.2 0, 4, .inl fol)), (ro 15, .inl (Y.2 0, 4, .inl cts))] _ := hP
          have hD : va_D _ [(ro 0, .inr (6, [.int (nI 0), .ref (ro 1), .ref (ro 2), .int (nI S.1), .ref (ro 3), .ref (ro 4), .ref (ro 5), .int (nI S.2.2.2.1), .ref (ro 6), .ref (ro 7), .int stp, .int efr, .int esz, .int etr, .ref (ro 8), .ref (ro 9), .ref (ro 10), .ref (ro 11), .ref (ro 12), .ref (ro 13), .ref (ro 14), .ref (ro 15)])), (ro 1, .inl (Y.2 0, 300, .inl val)), (ro 2, .inl (Y.2 0, 3, .inl siz)), (ro 3, .inl (Y.2 0, 8, .inl tre)), (ro 4, .inl (Y.2 0, 8, .inl spa)), (ro 5, .inl (Y.2 0, 12, .inl (upd pro j1 (nI j2)))), (ro 6, .inl (Y.2 0, 12, .inl bes)), (ro 7, .inl (Y.2 1, 12, .inl isr)), (ro 8, .inl (Y.2 0, 64, .inl key)), (ro 9, .inl (Y.2 0, 64, .inl lev)), (ro 10, .inl (Y.2 0, 4, .inl kvi)), (ro 11, .inl (Y.2 0, 4, .inl ksz)), (ro 12, .inl (Y.2 0, 4, .inl krt)), (ro 13, .inl (Y.2 1, 4, .inl ala)), (ro 14, .inl (Y.2 0, 4, .inl fol)), (ro 15, .inl (Y.2 0, 4, .inl cts))] := hD
          refine lv_aload_n hx hb dX6_change_82 rfl (lv_at hl 0 rfl) ?_
          refine va_get (D := Y.1) (ci := 6) (v := .int (nI S.2.2.2.1)) (C := RX6) (T := TX6) (N := 22) hx hb hts inX6 hown hK hP 0 rfl rfl 7 (by decide) (hts _ tw_3_162) (fun _ h9 => h9) rfl dX6_change_83 ?_
          refine th_iret hx hb hr hlk hQ hS dX6_change_86 (Nat.le_of_ble_eq_true rfl) (Nat.le_of_ble_eq_true rfl) ?_
          show th_ro Y ro (_) _ _
          unfold sp_change
          simp only [zj1, zj2]
          rw [th_ifT q1, th_ifT q2, th_ifT q3]
          rw [show th_chN S j1 = S.2.2.2.1 from if_neg c_5]
          exact th_roT (rfl) (th_rgI hP (th_RvD hv (by omega) (th_updE (fun j9 hj9 hne9 => hv.2.2.2.1 j9 (by omega)))))
          
        refine lv_aload_n hx hb dX6_change_66 rfl (lv_at hl 0 rfl) ?_
        refine va_get (D := Y.1) (ci := 6) (v := .int (nI S.2.2.2.1)) (C := RX6) (T := TX6) (N := 22) hx hb hts inX6 hown hK hP 0 rfl rfl 7 (by decide) (hts _ tw_3_162) (fun _ h9 => h9) rfl dX6_change_67 ?_
        refine lv_iconst (v := nI 1) hx hb dX6_change_70 (by decide) ?_
        refine lv_iadd hx hb dX6_change_71 ?_
        refine th_ti (nI_add _ _) ?_
        refine lv_goto (tgt := 79) hx hb dX6_change_72 (by decide) ?_
        refine va_put (D := Y.1) (ci := 6) (v := .int (nI (S.2.2.2.1 + 1))) (ty := .int) (C := RX6) (T := TX6) (N := 22) hx hb hts inX6 tyX6 tyX6_ok nmX6 hown hK hP hD hS 0 rfl rfl 7 (by decide) (hts _ tw_3_162) (fun _ h9 => h9) rfl (by decide +kernel) rfl rfl (Nat.le_of_ble_eq_true rfl) dX6_change_79 (fun H locs hP hD hS => ?_)
        have hP : va_P Y.1 vwCl [(ro 0, .inr (6, [.int (nI 0), .ref (ro 1), .ref (ro 2), .int (nI S.1), .ref (ro 3), .ref (ro 4), .ref (ro 5), .int (nI (S.2.2.2.1 + 1)), .ref (ro 6), .ref (ro 7), .int stp, .int efr, .int esz, .int etr, .ref (ro 8), .ref (ro 9), .ref (ro 10), .ref (ro 11), .ref (ro 12), .ref (ro 13), .ref (ro 14), .ref (ro 15)])), (ro 1, .inl (Y.2 0, 300, .inl val)), (ro 2, .inl (Y.2 0, 3, .inl siz)), (ro 3, .inl (Y.2 0, 8, .inl tre)), (ro 4, .inl (Y.2 0, 8, .inl spa)), (ro 5, .inl (Y.2 0, 12, .inl (upd pro j1 (nI j2)))), (ro 6, .inl (Y.2 0, 12, .inl bes)), (ro 7, .inl (Y.2 1, 12, .inl isr)), (ro 8, .inl (Y.2 0, 64, .inl key)), (ro 9, .inl (Y.2 0, 64, .inl lev)), (ro 10, .inl (Y.2 0, 4, .inl kvi)), (ro 11, .inl (Y.2 0, 4, .inl ksz)), (ro 12, .inl (Y.2 0, 4, .inl krt)), (ro 13, .inl (Y.2 1, 4, .inl ala)), (ro 14, .inl (Y.2 0, 4, .inl fol)), (ro 15, .inl (Y.2 0, 4, .inl cts))] _ := hP
        have hD : va_D _ [(ro 0, .inr (6, [.int (nI 0), .ref (ro 1), .ref (ro 2), .int (nI S.1), .ref (ro 3), .ref (ro 4), .ref (ro 5), .int (nI (S.2.2.2.1 + 1)), .ref (ro 6), .ref (ro 7), .int stp, .int efr, .int esz, .int etr, .ref (ro 8), .ref (ro 9), .ref (ro 10), .ref (ro 11), .ref (ro 12), .ref (ro 13), .ref (ro 14), .ref (ro 15)])), (ro 1, .inl (Y.2 0, 300, .inl val)), (ro 2, .inl (Y.2 0, 3, .inl siz)), (ro 3, .inl (Y.2 0, 8, .inl tre)), (ro 4, .inl (Y.2 0, 8, .inl spa)), (ro 5, .inl (Y.2 0, 12, .inl (upd pro j1 (nI j2)))), (ro 6, .inl (Y.2 0, 12, .inl bes)), (ro 7, .inl (Y.2 1, 12, .inl isr)), (ro 8, .inl (Y.2 0, 64, .inl key)), (ro 9, .inl (Y.2 0, 64, .inl lev)), (ro 10, .inl (Y.2 0, 4, .inl kvi)), (ro 11, .inl (Y.2 0, 4, .inl ksz)), (ro 12, .inl (Y.2 0, 4, .inl krt)), (ro 13, .inl (Y.2 1, 4, .inl ala)), (ro 14, .inl (Y.2 0, 4, .inl fol)), (ro 15, .inl (Y.2 0, 4, .inl cts))] := hD
        refine lv_aload_n hx hb dX6_change_82 rfl (lv_at hl 0 rfl) ?_
        refine va_get (D := Y.1) (ci := 6) (v := .int (nI (S.2.2.2.1 + 1))) (C := RX6) (T := TX6) (N := 22) hx hb hts inX6 hown hK hP 0 rfl rfl 7 (by decide) (hts _ tw_3_162) (fun _ h9 => h9) rfl dX6_change_83 ?_
        refine th_iret hx hb hr hlk hQ hS dX6_change_86 (Nat.le_of_ble_eq_true rfl) (Nat.le_of_ble_eq_true rfl) ?_
        show th_ro Y ro (_) _ _
        unfold sp_change
        simp only [zj1, zj2]
        rw [th_ifT q1, th_ifT q2, th_ifT q3]
        rw [show th_chN S j1 = S.2.2.2.1 + 1 from if_pos c_5]
        exact th_roT (rfl) (th_rgI hP (th_RvD hv (by omega) (th_updE (fun j9 hj9 hne9 => hv.2.2.2.1 j9 (by omega)))))
        
      have q3 : ¬ (j1 < 12) := by omega
      refine lv_iconst (v := nI 3) hx hb dX6_change_37 (by decide) ?_
      refine lv_goto (tgt := 42) hx hb dX6_change_38 (by decide) ?_
      refine th_callV hx hb hml hown hts ⟨hK, hN⟩ hl hS (hP 0 _ rfl) rfl (rest := []) (c_X6_goesWell l Y _ ro thr stp efr esz etr S.1 S.2.2.2.1 (hP.sub (ws' := [(ro 0, .inr (6, [.int thr, .ref (ro 1), .ref (ro 2), .int (nI S.1), .ref (ro 3), .ref (ro 4), .ref (ro 5), .int (nI S.2.2.2.1), .ref (ro 6), .ref (ro 7), .int stp, .int efr, .int esz, .int etr, .ref (ro 8), .ref (ro 9), .ref (ro 10), .ref (ro 11), .ref (ro 12), .ref (ro 13), .ref (ro 14), .ref (ro 15)]))]) [0] rfl) 3 (by omega)) ok_X6_goesWell tw_4_1 dX6_change_42 rfl rfl (Nat.le_of_ble_eq_true rfl) ⟨Nat.le_of_ble_eq_true rfl, Nat.le_of_ble_eq_true rfl⟩ ⟨Nat.le_of_ble_eq_true rfl, Nat.le_of_ble_eq_true rfl⟩ (th_subL [0] rfl) (th_ki (fun rz9 H locs hp hsm hS => ?_))
      obtain ⟨hrz, hPc⟩ := hp
      have hP : va_P Y.1 vwCl [(ro 0, .inr (6, [.int (nI 3), .ref (ro 1), .ref (ro 2), .int (nI S.1), .ref (ro 3), .ref (ro 4), .ref (ro 5), .int (nI S.2.2.2.1), .ref (ro 6), .ref (ro 7), .int stp, .int efr, .int esz, .int etr, .ref (ro 8), .ref (ro 9), .ref (ro 10), .ref (ro 11), .ref (ro 12), .ref (ro 13), .ref (ro 14), .ref (ro 15)])), (ro 1, .inl (Y.2 0, 300, .inl val)), (ro 2, .inl (Y.2 0, 3, .inl siz)), (ro 3, .inl (Y.2 0, 8, .inl tre)), (ro 4, .inl (Y.2 0, 8, .inl spa)), (ro 5, .inl (Y.2 0, 12, .inl pro)), (ro 6, .inl (Y.2 0, 12, .inl bes)), (ro 7, .inl (Y.2 1, 12, .inl isr)), (ro 8, .inl (Y.2 0, 64, .inl key)), (ro 9, .inl (Y.2 0, 64, .inl lev)), (ro 10, .inl (Y.2 0, 4, .inl kvi)), (ro 11, .inl (Y.2 0, 4, .inl ksz)), (ro 12, .inl (Y.2 0, 4, .inl krt)), (ro 13, .inl (Y.2 1, 4, .inl ala)), (ro 14, .inl (Y.2 0, 4, .inl fol)), (ro 15, .inl (Y.2 0, 4, .inl cts))] _ := (th_join (wr := [(ro 1, .inl (Y.2 0, 300, .inl val)), (ro 2, .inl (Y.2 0, 3, .inl siz)), (ro 3, .inl (Y.2 0, 8, .inl tre)), (ro 4, .inl (Y.2 0, 8, .inl spa)), (ro 5, .inl (Y.2 0, 12, .inl pro)), (ro 6, .inl (Y.2 0, 12, .inl bes)), (ro 7, .inl (Y.2 1, 12, .inl isr)), (ro 8, .inl (Y.2 0, 64, .inl key)), (ro 9, .inl (Y.2 0, 64, .inl lev)), (ro 10, .inl (Y.2 0, 4, .inl kvi)), (ro 11, .inl (Y.2 0, 4, .inl ksz)), (ro 12, .inl (Y.2 0, 4, .inl krt)), (ro 13, .inl (Y.2 1, 4, .inl ala)), (ro 14, .inl (Y.2 0, 4, .inl fol)), (ro 15, .inl (Y.2 0, 4, .inl cts))]) hP hD [1, 2, 3, 4, 5, 6, 7, 8, 9, 10, 11, 12, 13, 14, 15] [0] rfl rfl (by decide) hsm hPc).sub [15, 0, 1, 2, 3, 4, 5, 6, 7, 8, 9, 10, 11, 12, 13, 14] rfl
      have hD : va_D _ [(ro 0, .inr (6, [.int (nI 3), .ref (ro 1), .ref (ro 2), .int (nI S.1), .ref (ro 3), .ref (ro 4), .ref (ro 5), .int (nI S.2.2.2.1), .ref (ro 6), .ref (ro 7), .int stp, .int efr, .int esz, .int etr, .ref (ro 8), .ref (ro 9), .ref (ro 10), .ref (ro 11), .ref (ro 12), .ref (ro 13), .ref (ro 14), .ref (ro 15)])), (ro 1, .inl (Y.2 0, 300, .inl val)), (ro 2, .inl (Y.2 0, 3, .inl siz)), (ro 3, .inl (Y.2 0, 8, .inl tre)), (ro 4, .inl (Y.2 0, 8, .inl spa)), (ro 5, .inl (Y.2 0, 12, .inl pro)), (ro 6, .inl (Y.2 0, 12, .inl bes)), (ro 7, .inl (Y.2 1, 12, .inl isr)), (ro 8, .inl (Y.2 0, 64, .inl key)), (ro 9, .inl (Y.2 0, 64, .inl lev)), (ro 10, .inl (Y.2 0, 4, .inl kvi)), (ro 11, .inl (Y.2 0, 4, .inl ksz)), (ro 12, .inl (Y.2 0, 4, .inl krt)), (ro 13, .inl (Y.2 1, 4, .inl ala)), (ro 14, .inl (Y.2 0, 4, .inl fol)), (ro 15, .inl (Y.2 0, 4, .inl cts))] := th_Dsame hD rfl
      obtain rfl : rz9 = nI 0 := by rw [hrz]; rfl
      refine th_zne (tgt := 50) hx hb dX6_change_45 (by decide) (by omega) (fun c_6 => by exfalso; omega) (fun c_6 => ?_)
      refine lv_iconst (v := nI 0) hx hb dX6_change_48 (by decide) ?_
      refine th_iret hx hb hr hlk hQ hS dX6_change_49 (Nat.le_of_ble_eq_true rfl) (Nat.le_of_ble_eq_true rfl) ?_
      show th_ro Y ro (_) _ _
      unfold sp_change
      simp only [zj1, zj2]
      rw [th_ifT q1, th_ifT q2, th_ifF (fun z9 => q3 z9)]
      exact th_roF (by decide) (th_rgI hP hv)
      
    refine th_ti (th_bF q2) ?_
    refine th_zne (tgt := 31) hx hb dX6_change_24 (by decide) (by omega) (fun c_7 => by exfalso; omega) (fun c_7 => ?_)
    refine lv_iconst (v := nI 2) hx hb dX6_change_27 (by decide) ?_
    refine lv_goto (tgt := 42) hx hb dX6_change_28 (by decide) ?_
    refine th_callV hx hb hml hown hts ⟨hK, hN⟩ hl hS (hP 0 _ rfl) rfl (rest := []) (c_X6_goesWell l Y _ ro thr stp efr esz etr S.1 S.2.2.2.1 (hP.sub (ws' := [(ro 0, .inr (6, [.int thr, .ref (ro 1), .ref (ro 2), .int (nI S.1), .ref (ro 3), .ref (ro 4), .ref (ro 5), .int (nI S.2.2.2.1), .ref (ro 6), .ref (ro 7), .int stp, .int efr, .int esz, .int etr, .ref (ro 8), .ref (ro 9), .ref (ro 10), .ref (ro 11), .ref (ro 12), .ref (ro 13), .ref (ro 14), .ref (ro 15)]))]) [0] rfl) 2 (by omega)) ok_X6_goesWell tw_4_1 dX6_change_42 rfl rfl (Nat.le_of_ble_eq_true rfl) ⟨Nat.le_of_ble_eq_true rfl, Nat.le_of_ble_eq_true rfl⟩ ⟨Nat.le_of_ble_eq_true rfl, Nat.le_of_ble_eq_true rfl⟩ (th_subL [0] rfl) (th_ki (fun rz9 H locs hp hsm hS => ?_))
    obtain ⟨hrz, hPc⟩ := hp
    have hP : va_P Y.1 vwCl [(ro 0, .inr (6, [.int (nI 2), .ref (ro 1), .ref (ro 2), .int (nI S.1), .ref (ro 3), .ref (ro 4), .ref (ro 5), .int (nI S.2.2.2.1), .ref (ro 6), .ref (ro 7), .int stp, .int efr, .int esz, .int etr, .ref (ro 8), .ref (ro 9), .ref (ro 10), .ref (ro 11), .ref (ro 12), .ref (ro 13), .ref (ro 14), .ref (ro 15)])), (ro 1, .inl (Y.2 0, 300, .inl val)), (ro 2, .inl (Y.2 0, 3, .inl siz)), (ro 3, .inl (Y.2 0, 8, .inl tre)), (ro 4, .inl (Y.2 0, 8, .inl spa)), (ro 5, .inl (Y.2 0, 12, .inl pro)), (ro 6, .inl (Y.2 0, 12, .inl bes)), (ro 7, .inl (Y.2 1, 12, .inl isr)), (ro 8, .inl (Y.2 0, 64, .inl key)), (ro 9, .inl (Y.2 0, 64, .inl lev)), (ro 10, .inl (Y.2 0, 4, .inl kvi)), (ro 11, .inl (Y.2 0, 4, .inl ksz)), (ro 12, .inl (Y.2 0, 4, .inl krt)), (ro 13, .inl (Y.2 1, 4, .inl ala)), (ro 14, .inl (Y.2 0, 4, .inl fol)), (ro 15, .inl (Y.2 0, 4, .inl cts))] _ := (th_join (wr := [(ro 1, .inl (Y.2 0, 300, .inl val)), (ro 2, .inl (Y.2 0, 3, .inl siz)), (ro 3, .inl (Y.2 0, 8, .inl tre)), (ro 4, .inl (Y.2 0, 8, .inl spa)), (ro 5, .inl (Y.2 0, 12, .inl pro)), (ro 6, .inl (Y.2 0, 12, .inl bes)), (ro 7, .inl (Y.2 1, 12, .inl isr)), (ro 8, .inl (Y.2 0, 64, .inl key)), (ro 9, .inl (Y.2 0, 64, .inl lev)), (ro 10, .inl (Y.2 0, 4, .inl kvi)), (ro 11, .inl (Y.2 0, 4, .inl ksz)), (ro 12, .inl (Y.2 0, 4, .inl krt)), (ro 13, .inl (Y.2 1, 4, .inl ala)), (ro 14, .inl (Y.2 0, 4, .inl fol)), (ro 15, .inl (Y.2 0, 4, .inl cts))]) hP hD [1, 2, 3, 4, 5, 6, 7, 8, 9, 10, 11, 12, 13, 14, 15] [0] rfl rfl (by decide) hsm hPc).sub [15, 0, 1, 2, 3, 4, 5, 6, 7, 8, 9, 10, 11, 12, 13, 14] rfl
    have hD : va_D _ [(ro 0, .inr (6, [.int (nI 2), .ref (ro 1), .ref (ro 2), .int (nI S.1), .ref (ro 3), .ref (ro 4), .ref (ro 5), .int (nI S.2.2.2.1), .ref (ro 6), .ref (ro 7), .int stp, .int efr, .int esz, .int etr, .ref (ro 8), .ref (ro 9), .ref (ro 10), .ref (ro 11), .ref (ro 12), .ref (ro 13), .ref (ro 14), .ref (ro 15)])), (ro 1, .inl (Y.2 0, 300, .inl val)), (ro 2, .inl (Y.2 0, 3, .inl siz)), (ro 3, .inl (Y.2 0, 8, .inl tre)), (ro 4, .inl (Y.2 0, 8, .inl spa)), (ro 5, .inl (Y.2 0, 12, .inl pro)), (ro 6, .inl (Y.2 0, 12, .inl bes)), (ro 7, .inl (Y.2 1, 12, .inl isr)), (ro 8, .inl (Y.2 0, 64, .inl key)), (ro 9, .inl (Y.2 0, 64, .inl lev)), (ro 10, .inl (Y.2 0, 4, .inl kvi)), (ro 11, .inl (Y.2 0, 4, .inl ksz)), (ro 12, .inl (Y.2 0, 4, .inl krt)), (ro 13, .inl (Y.2 1, 4, .inl ala)), (ro 14, .inl (Y.2 0, 4, .inl fol)), (ro 15, .inl (Y.2 0, 4, .inl cts))] := th_Dsame hD rfl
    obtain rfl : rz9 = nI 0 := by rw [hrz]; rfl
    refine th_zne (tgt := 50) hx hb dX6_change_45 (by decide) (by omega) (fun c_8 => by exfalso; omega) (fun c_8 => ?_)
    refine lv_iconst (v := nI 0) hx hb dX6_change_48 (by decide) ?_
    refine th_iret hx hb hr hlk hQ hS dX6_change_49 (Nat.le_of_ble_eq_true rfl) (Nat.le_of_ble_eq_true rfl) ?_
    show th_ro Y ro (_) _ _
    unfold sp_change
    simp only [zj1]
    rw [th_ifT q1, th_ifF (fun z9 => q2 z9)]
    exact th_roF (by decide) (th_rgI hP hv)
    
  refine th_ti (th_bF q1) ?_
  refine th_zne (tgt := 17) hx hb dX6_change_10 (by decide) (by omega) (fun c_9 => by exfalso; omega) (fun c_9 => ?_)
  refine lv_iconst (v := nI 1) hx hb dX6_change_13 (by decide) ?_
  refine lv_goto (tgt := 42) hx hb dX6_change_14 (by decide) ?_
  refine th_callV hx hb hml hown hts ⟨hK, hN⟩ hl hS (hP 0 _ rfl) rfl (rest := []) (c_X6_goesWell l Y _ ro thr stp efr esz etr S.1 S.2.2.2.1 (hP.sub (ws' := [(ro 0, .inr (6, [.int thr, .ref (ro 1), .ref (ro 2), .int (nI S.1), .ref (ro 3), .ref (ro 4), .ref (ro 5), .int (nI S.2.2.2.1), .ref (ro 6), .ref (ro 7), .int stp, .int efr, .int esz, .int etr, .ref (ro 8), .ref (ro 9), .ref (ro 10), .ref (ro 11), .ref (ro 12), .ref (ro 13), .ref (ro 14), .ref (ro 15)]))]) [0] rfl) 1 (by omega)) ok_X6_goesWell tw_4_1 dX6_change_42 rfl rfl (Nat.le_of_ble_eq_true rfl) ⟨Nat.le_of_ble_eq_true rfl, Nat.le_of_ble_eq_true rfl⟩ ⟨Nat.le_of_ble_eq_true rfl, Nat.le_of_ble_eq_true rfl⟩ (th_subL [0] rfl) (th_ki (fun rz9 H locs hp hsm hS => ?_))
  obtain ⟨hrz, hPc⟩ := hp
  have hP : va_P Y.1 vwCl [(ro 0, .inr (6, [.int (nI 1), .ref (ro 1), .ref (ro 2), .int (nI S.1), .ref (ro 3), .ref (ro 4), .ref (ro 5), .int (nI S.2.2.2.1), .ref (ro 6), .ref (ro 7), .int stp, .int efr, .int esz, .int etr, .ref (ro 8), .ref (ro 9), .ref (ro 10), .ref (ro 11), .ref (ro 12), .ref (ro 13), .ref (ro 14), .ref (ro 15)])), (ro 1, .inl (Y.2 0, 300, .inl val)), (ro 2, .inl (Y.2 0, 3, .inl siz)), (ro 3, .inl (Y.2 0, 8, .inl tre)), (ro 4, .inl (Y.2 0, 8, .inl spa)), (ro 5, .inl (Y.2 0, 12, .inl pro)), (ro 6, .inl (Y.2 0, 12, .inl bes)), (ro 7, .inl (Y.2 1, 12, .inl isr)), (ro 8, .inl (Y.2 0, 64, .inl key)), (ro 9, .inl (Y.2 0, 64, .inl lev)), (ro 10, .inl (Y.2 0, 4, .inl kvi)), (ro 11, .inl (Y.2 0, 4, .inl ksz)), (ro 12, .inl (Y.2 0, 4, .inl krt)), (ro 13, .inl (Y.2 1, 4, .inl ala)), (ro 14, .inl (Y.2 0, 4, .inl fol)), (ro 15, .inl (Y.2 0, 4, .inl cts))] _ := (th_join (wr := [(ro 1, .inl (Y.2 0, 300, .inl val)), (ro 2, .inl (Y.2 0, 3, .inl siz)), (ro 3, .inl (Y.2 0, 8, .inl tre)), (ro 4, .inl (Y.2 0, 8, .inl spa)), (ro 5, .inl (Y.2 0, 12, .inl pro)), (ro 6, .inl (Y.2 0, 12, .inl bes)), (ro 7, .inl (Y.2 1, 12, .inl isr)), (ro 8, .inl (Y.2 0, 64, .inl key)), (ro 9, .inl (Y.2 0, 64, .inl lev)), (ro 10, .inl (Y.2 0, 4, .inl kvi)), (ro 11, .inl (Y.2 0, 4, .inl ksz)), (ro 12, .inl (Y.2 0, 4, .inl krt)), (ro 13, .inl (Y.2 1, 4, .inl ala)), (ro 14, .inl (Y.2 0, 4, .inl fol)), (ro 15, .inl (Y.2 0, 4, .inl cts))]) hP hD [1, 2, 3, 4, 5, 6, 7, 8, 9, 10, 11, 12, 13, 14, 15] [0] rfl rfl (by decide) hsm hPc).sub [15, 0, 1, 2, 3, 4, 5, 6, 7, 8, 9, 10, 11, 12, 13, 14] rfl
  have hD : va_D _ [(ro 0, .inr (6, [.int (nI 1), .ref (ro 1), .ref (ro 2), .int (nI S.1), .ref (ro 3), .ref (ro 4), .ref (ro 5), .int (nI S.2.2.2.1), .ref (ro 6), .ref (ro 7), .int stp, .int efr, .int esz, .int etr, .ref (ro 8), .ref (ro 9), .ref (ro 10), .ref (ro 11), .ref (ro 12), .ref (ro 13), .ref (ro 14), .ref (ro 15)])), (ro 1, .inl (Y.2 0, 300, .inl val)), (ro 2, .inl (Y.2 0, 3, .inl siz)), (ro 3, .inl (Y.2 0, 8, .inl tre)), (ro 4, .inl (Y.2 0, 8, .inl spa)), (ro 5, .inl (Y.2 0, 12, .inl pro)), (ro 6, .inl (Y.2 0, 12, .inl bes)), (ro 7, .inl (Y.2 1, 12, .inl isr)), (ro 8, .inl (Y.2 0, 64, .inl key)), (ro 9, .inl (Y.2 0, 64, .inl lev)), (ro 10, .inl (Y.2 0, 4, .inl kvi)), (ro 11, .inl (Y.2 0, 4, .inl ksz)), (ro 12, .inl (Y.2 0, 4, .inl krt)), (ro 13, .inl (Y.2 1, 4, .inl ala)), (ro 14, .inl (Y.2 0, 4, .inl fol)), (ro 15, .inl (Y.2 0, 4, .inl cts))] := th_Dsame hD rfl
  obtain rfl : rz9 = nI 0 := by rw [hrz]; rfl
  refine th_zne (tgt := 50) hx hb dX6_change_45 (by decide) (by omega) (fun c_10 => by exfalso; omega) (fun c_10 => ?_)
  refine lv_iconst (v := nI 0) hx hb dX6_change_48 (by decide) ?_
  refine th_iret hx hb hr hlk hQ hS dX6_change_49 (Nat.le_of_ble_eq_true rfl) (Nat.le_of_ble_eq_true rfl) ?_
  show th_ro Y ro (_) _ _
  unfold sp_change
  rw [th_ifF (fun z9 => q1 z9)]
  exact th_roF (by decide) (th_rgI hP hv)
  

set_option maxRecDepth 100000 in
set_option maxHeartbeats 800000 in
theorem c_X6_isAlarmed (l : Launch) (Y : th_Y) (H0 : Heap) (ro : Nat → Nat) (hJ : th_gJ ro 16) (S : th_S) (thr stp efr esz etr : Int32) (val siz tre spa pro bes isr key lev kvi ksz krt ala fol cts : Nat → Int32) (hP : va_P Y.1 vwCl [(ro 0, .inr (6, [.int thr, .ref (ro 1), .ref (ro 2), .int (nI S.1), .ref (ro 3), .ref (ro 4), .ref (ro 5), .int (nI S.2.2.2.1), .ref (ro 6), .ref (ro 7), .int stp, .int efr, .int esz, .int etr, .ref (ro 8), .ref (ro 9), .ref (ro 10), .ref (ro 11), .ref (ro 12), .ref (ro 13), .ref (ro 14), .ref (ro 15)])), (ro 1, .inl (Y.2 0, 300, .inl val)), (ro 2, .inl (Y.2 0, 3, .inl siz)), (ro 3, .inl (Y.2 0, 8, .inl tre)), (ro 4, .inl (Y.2 0, 8, .inl spa)), (ro 5, .inl (Y.2 0, 12, .inl pro)), (ro 6, .inl (Y.2 0, 12, .inl bes)), (ro 7, .inl (Y.2 1, 12, .inl isr)), (ro 8, .inl (Y.2 0, 64, .inl key)), (ro 9, .inl (Y.2 0, 64, .inl lev)), (ro 10, .inl (Y.2 0, 4, .inl kvi)), (ro 11, .inl (Y.2 0, 4, .inl ksz)), (ro 12, .inl (Y.2 0, 4, .inl krt)), (ro 13, .inl (Y.2 1, 4, .inl ala)), (ro 14, .inl (Y.2 0, 4, .inl fol)), (ro 15, .inl (Y.2 0, 4, .inl cts))] H0) (hv : th_RIv S val siz pro key kvi ksz krt ala fol cts) (x1 : Int32) : th_M l Y yX6_isAlarmed cX6_isAlarmed 2 (some .boolean) (th_rm 6 0 0) [.ref (ro 0), .int x1] H0 (fun z => z ∈ [ro 0, ro 1, ro 2, ro 3, ro 4, ro 5, ro 6, ro 7, ro 8, ro 9, ro 10, ro 11, ro 12, ro 13, ro 14, ro 15]) (th_ro Y ro (sp_isAlarmed S x1)) := by
  refine th_M.intro (by decide) (Nat.le_of_ble_eq_true rfl) ?_
  intro p e s m args below meth c ls Q hQ C hKN hl hS
  obtain ⟨hx, hb, hr, hml, hown, hts, hlk, hnm⟩ := C
  obtain ⟨hK, hN⟩ := hKN
  have hown : s.vm.findClass RX6 = some m.cls := hown
  have hl : lv_has ls 2 [(0, .ref (ro 0)), (1, .int x1)] := hl
  have hD : va_D (fun z => z ∈ [ro 0, ro 1, ro 2, ro 3, ro 4, ro 5, ro 6, ro 7, ro 8, ro 9, ro 10, ro 11, ro 12, ro 13, ro 14, ro 15]) [(ro 0, .inr (6, [.int thr, .ref (ro 1), .ref (ro 2), .int (nI S.1), .ref (ro 3), .ref (ro 4), .ref (ro 5), .int (nI S.2.2.2.1), .ref (ro 6), .ref (ro 7), .int stp, .int efr, .int esz, .int etr, .ref (ro 8), .ref (ro 9), .ref (ro 10), .ref (ro 11), .ref (ro 12), .ref (ro 13), .ref (ro 14), .ref (ro 15)])), (ro 1, .inl (Y.2 0, 300, .inl val)), (ro 2, .inl (Y.2 0, 3, .inl siz)), (ro 3, .inl (Y.2 0, 8, .inl tre)), (ro 4, .inl (Y.2 0, 8, .inl spa)), (ro 5, .inl (Y.2 0, 12, .inl pro)), (ro 6, .inl (Y.2 0, 12, .inl bes)), (ro 7, .inl (Y.2 1, 12, .inl isr)), (ro 8, .inl (Y.2 0, 64, .inl key)), (ro 9, .inl (Y.2 0, 64, .inl lev)), (ro 10, .inl (Y.2 0, 4, .inl kvi)), (ro 11, .inl (Y.2 0, 4, .inl ksz)), (ro 12, .inl (Y.2 0, 4, .inl krt)), (ro 13, .inl (Y.2 1, 4, .inl ala)), (ro 14, .inl (Y.2 0, 4, .inl fol)), (ro 15, .inl (Y.2 0, 4, .inl cts))] := th_mem (th_gD hJ [0, 1, 2, 3, 4, 5, 6, 7, 8, 9, 10, 11, 12, 13, 14, 15] (fun k9 hk9 => by simp only [List.mem_cons, List.not_mem_nil, or_false] at hk9; omega) th_nd16 rfl)
  have hv1 := hv.1
  have hv12 := hv.2.2.1
  refine lv_aload_n hx hb dX6_isAlarmed_0 rfl (lv_at hl 0 rfl) ?_
  refine lv_iload_n hx hb dX6_isAlarmed_1 rfl (lv_at hl 1 rfl) ?_
  refine th_callS hx hb hml hown hts ⟨hK, hN⟩ hl hS (rest := [.ref (ro 0)]) (c_X6_isWatcher l Y _ x1) ok_X6_isWatcher tw_4_147 dX6_isAlarmed_2 rfl rfl (Nat.le_of_ble_eq_true rfl) ⟨Nat.le_of_ble_eq_true rfl, Nat.le_of_ble_eq_true rfl⟩ ⟨Nat.le_of_ble_eq_true rfl, Nat.le_of_ble_eq_true rfl⟩ (fun _ h => h.elim) (th_kpi (fun locs hS => ?_))
  by_cases q1 : th_ir x1 0 4
  · refine th_ti (th_bT q1) ?_
    have uq9 := q1
    obtain ⟨j1, j1a, j1b, ux9⟩ := uq9
    subst ux9
    have zj1 : th_ix (nI j1) = j1 := th_ixN (by omega)
    refine th_zeq (tgt := 12) hx hb dX6_isAlarmed_5 (by decide) (by omega) (fun c_1 => by exfalso; omega) (fun c_1 => ?_)
    refine lv_iconst (v := nI 0) hx hb dX6_isAlarmed_8 (by decide) ?_
    refine lv_goto (tgt := 13) hx hb dX6_isAlarmed_9 (by decide) ?_
    refine th_callV hx hb hml hown hts ⟨hK, hN⟩ hl hS (hP 0 _ rfl) rfl (rest := []) (c_X6_goesWell l Y _ ro thr stp efr esz etr S.1 S.2.2.2.1 (hP.sub (ws' := [(ro 0, .inr (6, [.int thr, .ref (ro 1), .ref (ro 2), .int (nI S.1), .ref (ro 3), .ref (ro 4), .ref (ro 5), .int (nI S.2.2.2.1), .ref (ro 6), .ref (ro 7), .int stp, .int efr, .int esz, .int etr, .ref (ro 8), .ref (ro 9), .ref (ro 10), .ref (ro 11), .ref (ro 12), .ref (ro 13), .ref (ro 14), .ref (ro 15)]))]) [0] rfl) 0 (by omega)) ok_X6_goesWell tw_4_1 dX6_isAlarmed_13 rfl rfl (Nat.le_of_ble_eq_true rfl) ⟨Nat.le_of_ble_eq_true rfl, Nat.le_of_ble_eq_true rfl⟩ ⟨Nat.le_of_ble_eq_true rfl, Nat.le_of_ble_eq_true rfl⟩ (th_subL [0] rfl) (th_ki (fun rz9 H locs hp hsm hS => ?_))
    obtain ⟨hrz, hPc⟩ := hp
    have hP : va_P Y.1 vwCl [(ro 0, .inr (6, [.int (nI 0), .ref (ro 1), .ref (ro 2), .int (nI S.1), .ref (ro 3), .ref (ro 4), .ref (ro 5), .int (nI S.2.2.2.1), .ref (ro 6), .ref (ro 7), .int stp, .int efr, .int esz, .int etr, .ref (ro 8), .ref (ro 9), .ref (ro 10), .ref (ro 11), .ref (ro 12), .ref (ro 13), .ref (ro 14), .ref (ro 15)])), (ro 1, .inl (Y.2 0, 300, .inl val)), (ro 2, .inl (Y.2 0, 3, .inl siz)), (ro 3, .inl (Y.2 0, 8, .inl tre)), (ro 4, .inl (Y.2 0, 8, .inl spa)), (ro 5, .inl (Y.2 0, 12, .inl pro)), (ro 6, .inl (Y.2 0, 12, .inl bes)), (ro 7, .inl (Y.2 1, 12, .inl isr)), (ro 8, .inl (Y.2 0, 64, .inl key)), (ro 9, .inl (Y.2 0, 64, .inl lev)), (ro 10, .inl (Y.2 0, 4, .inl kvi)), (ro 11, .inl (Y.2 0, 4, .inl ksz)), (ro 12, .inl (Y.2 0, 4, .inl krt)), (ro 13, .inl (Y.2 1, 4, .inl ala)), (ro 14, .inl (Y.2 0, 4, .inl fol)), (ro 15, .inl (Y.2 0, 4, .inl cts))] _ := (th_join (wr := [(ro 1, .inl (Y.2 0, 300, .inl val)), (ro 2, .inl (Y.2 0, 3, .inl siz)), (ro 3, .inl (Y.2 0, 8, .inl tre)), (ro 4, .inl (Y.2 0, 8, .inl spa)), (ro 5, .inl (Y.2 0, 12, .inl pro)), (ro 6, .inl (Y.2 0, 12, .inl bes)), (ro 7, .inl (Y.2 1, 12, .inl isr)), (ro 8, .inl (Y.2 0, 64, .inl key)), (ro 9, .inl (Y.2 0, 64, .inl lev)), (ro 10, .inl (Y.2 0, 4, .inl kvi)), (ro 11, .inl (Y.2 0, 4, .inl ksz)), (ro 12, .inl (Y.2 0, 4, .inl krt)), (ro 13, .inl (Y.2 1, 4, .inl ala)), (ro 14, .inl (Y.2 0, 4, .inl fol)), (ro 15, .inl (Y.2 0, 4, .inl cts))]) hP hD [1, 2, 3, 4, 5, 6, 7, 8, 9, 10, 11, 12, 13, 14, 15] [0] rfl rfl (by decide) hsm hPc).sub [15, 0, 1, 2, 3, 4, 5, 6, 7, 8, 9, 10, 11, 12, 13, 14] rfl
    have hD : va_D _ [(ro 0, .inr (6, [.int (nI 0), .ref (ro 1), .ref (ro 2), .int (nI S.1), .ref (ro 3), .ref (ro 4), .ref (ro 5), .int (nI S.2.2.2.1), .ref (ro 6), .ref (ro 7), .int stp, .int efr, .int esz, .int etr, .ref (ro 8), .ref (ro 9), .ref (ro 10), .ref (ro 11), .ref (ro 12), .ref (ro 13), .ref (ro 14), .ref (ro 15)])), (ro 1, .inl (Y.2 0, 300, .inl val)), (ro 2, .inl (Y.2 0, 3, .inl siz)), (ro 3, .inl (Y.2 0, 8, .inl tre)), (ro 4, .inl (Y.2 0, 8, .inl spa)), (ro 5, .inl (Y.2 0, 12, .inl pro)), (ro 6, .inl (Y.2 0, 12, .inl bes)), (ro 7, .inl (Y.2 1, 12, .inl isr)), (ro 8, .inl (Y.2 0, 64, .inl key)), (ro 9, .inl (Y.2 0, 64, .inl lev)), (ro 10, .inl (Y.2 0, 4, .inl kvi)), (ro 11, .inl (Y.2 0, 4, .inl ksz)), (ro 12, .inl (Y.2 0, 4, .inl krt)), (ro 13, .inl (Y.2 1, 4, .inl ala)), (ro 14, .inl (Y.2 0, 4, .inl fol)), (ro 15, .inl (Y.2 0, 4, .inl cts))] := th_Dsame hD rfl
    obtain rfl : rz9 = nI 1 := by rw [hrz]; rfl
    refine th_zeq (tgt := 32) hx hb dX6_isAlarmed_16 (by decide) (by omega) (fun c_2 => by exfalso; omega) (fun c_2 => ?_)
    refine lv_aload_n hx hb dX6_isAlarmed_19 rfl (lv_at hl 0 rfl) ?_
    refine va_get (D := Y.1) (ci := 6) (v := .ref (ro 13)) (C := RX6) (T := TX6) (N := 22) hx hb hts inX6 hown hK hP 0 rfl rfl 19 (by decide) (hts _ tw_3_174) (fun _ h9 => h9) rfl dX6_isAlarmed_20 ?_
    refine lv_iload_n hx hb dX6_isAlarmed_23 rfl (lv_at hl 1 rfl) ?_
    refine th_zald hx hb hK hP 13 rfl (j := j1) (by omega) (by omega) dX6_isAlarmed_24 ?_
    rcases (hv.2.2.2.2.2 j1 j1b).2.2.2 with ha9 | ha9
    · refine th_ti (show ala j1 = nI 0 from (hv.2.2.2.2.2 j1 j1b).1.2.2.1.trans ha9) ?_
      refine th_zeq (tgt := 32) hx hb dX6_isAlarmed_25 (by decide) (by omega) (fun c_3 => ?_) (fun c_3 => by exfalso; omega)
      refine lv_iconst (v := nI 0) hx hb dX6_isAlarmed_32 (by decide) ?_
      refine th_zret hx hb hr hlk hQ hS dX6_isAlarmed_33 (Nat.le_of_ble_eq_true rfl) (Nat.le_of_ble_eq_true rfl) (by first | exact Or.inl rfl | exact Or.inr rfl | assumption | exact th_b01 _) ?_
      show th_ro Y ro (_) _ _
      unfold sp_isAlarmed
      simp only [zj1]
      rw [th_ifT q1]
      exact th_roT (ha9.symm) (th_rgI hP (hv))
      
    · refine th_ti (show ala j1 = nI 1 from (hv.2.2.2.2.2 j1 j1b).1.2.2.1.trans ha9) ?_
      refine th_zeq (tgt := 32) hx hb dX6_isAlarmed_25 (by decide) (by omega) (fun c_4 => by exfalso; omega) (fun c_4 => ?_)
      refine lv_iconst (v := nI 1) hx hb dX6_isAlarmed_28 (by decide) ?_
      refine lv_goto (tgt := 33) hx hb dX6_isAlarmed_29 (by decide) ?_
      refine th_zret hx hb hr hlk hQ hS dX6_isAlarmed_33 (Nat.le_of_ble_eq_true rfl) (Nat.le_of_ble_eq_true rfl) (by first | exact Or.inl rfl | exact Or.inr rfl | assumption | exact th_b01 _) ?_
      show th_ro Y ro (_) _ _
      unfold sp_isAlarmed
      simp only [zj1]
      rw [th_ifT q1]
      exact th_roT (ha9.symm) (th_rgI hP (hv))
      
  refine th_ti (th_bF q1) ?_
  refine th_zeq (tgt := 12) hx hb dX6_isAlarmed_5 (by decide) (by omega) (fun c_5 => ?_) (fun c_5 => by exfalso; omega)
  refine lv_iconst (v := nI 1) hx hb dX6_isAlarmed_12 (by decide) ?_
  refine th_callV hx hb hml hown hts ⟨hK, hN⟩ hl hS (hP 0 _ rfl) rfl (rest := []) (c_X6_goesWell l Y _ ro thr stp efr esz etr S.1 S.2.2.2.1 (hP.sub (ws' := [(ro 0, .inr (6, [.int thr, .ref (ro 1), .ref (ro 2), .int (nI S.1), .ref (ro 3), .ref (ro 4), .ref (ro 5), .int (nI S.2.2.2.1), .ref (ro 6), .ref (ro 7), .int stp, .int efr, .int esz, .int etr, .ref (ro 8), .ref (ro 9), .ref (ro 10), .ref (ro 11), .ref (ro 12), .ref (ro 13), .ref (ro 14), .ref (ro 15)]))]) [0] rfl) 1 (by omega)) ok_X6_goesWell tw_4_1 dX6_isAlarmed_13 rfl rfl (Nat.le_of_ble_eq_true rfl) ⟨Nat.le_of_ble_eq_true rfl, Nat.le_of_ble_eq_true rfl⟩ ⟨Nat.le_of_ble_eq_true rfl, Nat.le_of_ble_eq_true rfl⟩ (th_subL [0] rfl) (th_ki (fun rz9 H locs hp hsm hS => ?_))
  obtain ⟨hrz, hPc⟩ := hp
  have hP : va_P Y.1 vwCl [(ro 0, .inr (6, [.int (nI 1), .ref (ro 1), .ref (ro 2), .int (nI S.1), .ref (ro 3), .ref (ro 4), .ref (ro 5), .int (nI S.2.2.2.1), .ref (ro 6), .ref (ro 7), .int stp, .int efr, .int esz, .int etr, .ref (ro 8), .ref (ro 9), .ref (ro 10), .ref (ro 11), .ref (ro 12), .ref (ro 13), .ref (ro 14), .ref (ro 15)])), (ro 1, .inl (Y.2 0, 300, .inl val)), (ro 2, .inl (Y.2 0, 3, .inl siz)), (ro 3, .inl (Y.2 0, 8, .inl tre)), (ro 4, .inl (Y.2 0, 8, .inl spa)), (ro 5, .inl (Y.2 0, 12, .inl pro)), (ro 6, .inl (Y.2 0, 12, .inl bes)), (ro 7, .inl (Y.2 1, 12, .inl isr)), (ro 8, .inl (Y.2 0, 64, .inl key)), (ro 9, .inl (Y.2 0, 64, .inl lev)), (ro 10, .inl (Y.2 0, 4, .inl kvi)), (ro 11, .inl (Y.2 0, 4, .inl ksz)), (ro 12, .inl (Y.2 0, 4, .inl krt)), (ro 13, .inl (Y.2 1, 4, .inl ala)), (ro 14, .inl (Y.2 0, 4, .inl fol)), (ro 15, .inl (Y.2 0, 4, .inl cts))] _ := (th_join (wr := [(ro 1, .inl (Y.2 0, 300, .inl val)), (ro 2, .inl (Y.2 0, 3, .inl siz)), (ro 3, .inl (Y.2 0, 8, .inl tre)), (ro 4, .inl (Y.2 0, 8, .inl spa)), (ro 5, .inl (Y.2 0, 12, .inl pro)), (ro 6, .inl (Y.2 0, 12, .inl bes)), (ro 7, .inl (Y.2 1, 12, .inl isr)), (ro 8, .inl (Y.2 0, 64, .inl key)), (ro 9, .inl (Y.2 0, 64, .inl lev)), (ro 10, .inl (Y.2 0, 4, .inl kvi)), (ro 11, .inl (Y.2 0, 4, .inl ksz)), (ro 12, .inl (Y.2 0, 4, .inl krt)), (ro 13, .inl (Y.2 1, 4, .inl ala)), (ro 14, .inl (Y.2 0, 4, .inl fol)), (ro 15, .inl (Y.2 0, 4, .inl cts))]) hP hD [1, 2, 3, 4, 5, 6, 7, 8, 9, 10, 11, 12, 13, 14, 15] [0] rfl rfl (by decide) hsm hPc).sub [15, 0, 1, 2, 3, 4, 5, 6, 7, 8, 9, 10, 11, 12, 13, 14] rfl
  have hD : va_D _ [(ro 0, .inr (6, [.int (nI 1), .ref (ro 1), .ref (ro 2), .int (nI S.1), .ref (ro 3), .ref (ro 4), .ref (ro 5), .int (nI S.2.2.2.1), .ref (ro 6), .ref (ro 7), .int stp, .int efr, .int esz, .int etr, .ref (ro 8), .ref (ro 9), .ref (ro 10), .ref (ro 11), .ref (ro 12), .ref (ro 13), .ref (ro 14), .ref (ro 15)])), (ro 1, .inl (Y.2 0, 300, .inl val)), (ro 2, .inl (Y.2 0, 3, .inl siz)), (ro 3, .inl (Y.2 0, 8, .inl tre)), (ro 4, .inl (Y.2 0, 8, .inl spa)), (ro 5, .inl (Y.2 0, 12, .inl pro)), (ro 6, .inl (Y.2 0, 12, .inl bes)), (ro 7, .inl (Y.2 1, 12, .inl isr)), (ro 8, .inl (Y.2 0, 64, .inl key)), (ro 9, .inl (Y.2 0, 64, .inl lev)), (ro 10, .inl (Y.2 0, 4, .inl kvi)), (ro 11, .inl (Y.2 0, 4, .inl ksz)), (ro 12, .inl (Y.2 0, 4, .inl krt)), (ro 13, .inl (Y.2 1, 4, .inl ala)), (ro 14, .inl (Y.2 0, 4, .inl fol)), (ro 15, .inl (Y.2 0, 4, .inl cts))] := th_Dsame hD rfl
  obtain rfl : rz9 = nI 0 := by rw [hrz]; rfl
  refine th_zeq (tgt := 32) hx hb dX6_isAlarmed_16 (by decide) (by omega) (fun c_6 => ?_) (fun c_6 => by exfalso; omega)
  refine lv_iconst (v := nI 0) hx hb dX6_isAlarmed_32 (by decide) ?_
  refine th_zret hx hb hr hlk hQ hS dX6_isAlarmed_33 (Nat.le_of_ble_eq_true rfl) (Nat.le_of_ble_eq_true rfl) (by first | exact Or.inl rfl | exact Or.inr rfl | assumption | exact th_b01 _) ?_
  show th_ro Y ro (_) _ _
  unfold sp_isAlarmed
  rw [th_ifF (fun z9 => q1 z9)]
  exact th_roF (by decide) (th_rgI hP hv)
  

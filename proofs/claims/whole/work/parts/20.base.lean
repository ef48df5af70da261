set_option maxRecDepth 100000 in
set_option maxHeartbeats 4000000 in
theorem c_X5_leafSum (l : Launch) (Y : th_Y) (H : Heap) (v : Int32) : th_P l Y yX5_leafSum cX5_leafSum 1 (some .int) (th_rm 0 0 0) [.int v] H (fun r9 => r9 = some (.int (th_ls v))) := by
  refine th_M.intro (by decide) (Nat.le_of_ble_eq_true rfl) ?_
  intro p e s m args below meth c ls Q hQ C hKN hl hS
  obtain ⟨hx, hb, hr, hml, hown, hts, hlk, hnm⟩ := C
  obtain ⟨hK, hN⟩ := hKN
  have hown : s.vm.findClass RX5 = some m.cls := hown
  have hl : lv_has ls 1 [(0, .int v)] := hl
  refine lv_ldc2 hx hb hown (hts _ tw_2_53) dX5_leafSum_0 ?_
  refine lv_iload_n hx hb dX5_leafSum_3 rfl (lv_at hl 0 rfl) ?_
  refine lv_i2l hx hb dX5_leafSum_4 rfl ?_
  refine lv_lmul hx hb dX5_leafSum_5 ?_
  refine lv_ldc2 hx hb hown (hts _ tw_2_54) dX5_leafSum_6 ?_
  refine lv_ladd hx hb dX5_leafSum_9 ?_
  refine lv_ldc2 hx hb hown (hts _ tw_2_55) dX5_leafSum_10 ?_
  refine lv_lrem hx hb dX5_leafSum_13 (by decide) ?_
  refine lv_l2i hx hb dX5_leafSum_14 rfl ?_
  refine th_iret hx hb hr hlk hQ hS dX5_leafSum_15 (Nat.le_of_ble_eq_true rfl) (Nat.le_of_ble_eq_true rfl) ?_
  exact ⟨rfl, rfl⟩

set_option maxRecDepth 100000 in
set_option maxHeartbeats 4000000 in
theorem c_X5_mix (l : Launch) (Y : th_Y) (H : Heap) (a b : Int32) : th_P l Y yX5_mix cX5_mix 2 (some .int) (th_rm 0 0 0) [.int a, .int b] H (fun r9 => r9 = some (.int (th_mx a b))) := by
  refine th_M.intro (by decide) (Nat.le_of_ble_eq_true rfl) ?_
  intro p e s m args below meth c ls Q hQ C hKN hl hS
  obtain ⟨hx, hb, hr, hml, hown, hts, hlk, hnm⟩ := C
  obtain ⟨hK, hN⟩ := hKN
  have hown : s.vm.findClass RX5 = some m.cls := hown
  have hl : lv_has ls 2 [(0, .int a), (1, .int b)] := hl
  refine lv_ldc2 hx hb hown (hts _ tw_2_59) dX5_mix_0 ?_
  refine lv_iload_n hx hb dX5_mix_3 rfl (lv_at hl 0 rfl) ?_
  refine lv_i2l hx hb dX5_mix_4 rfl ?_
  refine lv_lmul hx hb dX5_mix_5 ?_
  refine lv_ldc2 hx hb hown (hts _ tw_2_60) dX5_mix_6 ?_
  refine lv_iload_n hx hb dX5_mix_9 rfl (lv_at hl 1 rfl) ?_
  refine lv_i2l hx hb dX5_mix_10 rfl ?_
  refine lv_lmul hx hb dX5_mix_11 ?_
  refine lv_ladd hx hb dX5_mix_12 ?_
  refine lv_ldc2 hx hb hown (hts _ tw_2_61) dX5_mix_13 ?_
  refine lv_ladd hx hb dX5_mix_16 ?_
  refine lv_ldc2 hx hb hown (hts _ tw_2_55) dX5_mix_17 ?_
  refine lv_lrem hx hb dX5_mix_20 (by decide) ?_
  refine lv_l2i hx hb dX5_mix_21 rfl ?_
  refine th_iret hx hb hr hlk hQ hS dX5_mix_22 (Nat.le_of_ble_eq_true rfl) (Nat.le_of_ble_eq_true rfl) ?_
  exact ⟨rfl, rfl⟩

set_option maxRecDepth 100000 in
set_option maxHeartbeats 4000000 in
theorem c_X5_keySum (l : Launch) (Y : th_Y) (H : Heap) (v : Int32) : th_P l Y yX5_keySum cX5_keySum 1 (some .int) (th_rm 1 0 0) [.int v] H (fun r9 => r9 = some (.int (th_ks v))) := by
  refine th_M.intro (by decide) (Nat.le_of_ble_eq_true rfl) ?_
  intro p e s m args below meth c ls Q hQ C hKN hl hS
  obtain ⟨hx, hb, hr, hml, hown, hts, hlk, hnm⟩ := C
  obtain ⟨hK, hN⟩ := hKN
  have hown : s.vm.findClass RX5 = some m.cls := hown
  have hl : lv_has ls 1 [(0, .int v)] := hl
  refine lv_iload_n hx hb dX5_keySum_0 rfl (lv_at hl 0 rfl) ?_
  refine lv_iconst (v := -1) hx hb dX5_keySum_1 (by decide) ?_
  refine lv_icmp_ne (tgt := 9) hx hb dX5_keySum_2 (by decide) (fun c_1 => ?_) (fun c_1 => ?_)
  · skip
    refine lv_iload_n hx hb dX5_keySum_9 rfl (lv_at hl 0 rfl) ?_
    refine lv_iconst (v := nI 1) hx hb dX5_keySum_10 (by decide) ?_
    refine lv_iadd hx hb dX5_keySum_11 ?_
    refine th_callS hx hb hml hown hts ⟨hK, hN⟩ hl hS (rest := []) (c_X5_leafSum l Y _ (v + (nI 1))) ok_X5_leafSum tw_3_45 dX5_keySum_12 rfl rfl (Nat.le_of_ble_eq_true rfl) ⟨Nat.le_of_ble_eq_true rfl, Nat.le_of_ble_eq_true rfl⟩ ⟨Nat.le_of_ble_eq_true rfl, Nat.le_of_ble_eq_true rfl⟩ (fun _ h => h.elim) (th_kpi (fun locs hS => ?_))
    refine th_iret hx hb hr hlk hQ hS dX5_keySum_15 (Nat.le_of_ble_eq_true rfl) (Nat.le_of_ble_eq_true rfl) ?_
    exact ⟨by rw [th_ks, if_neg c_1] <;> rfl, rfl⟩
  refine lv_iconst (v := nI 0) hx hb dX5_keySum_5 (by decide) ?_
  refine lv_goto (tgt := 15) hx hb dX5_keySum_6 (by decide) ?_
  refine th_iret hx hb hr hlk hQ hS dX5_keySum_15 (Nat.le_of_ble_eq_true rfl) (Nat.le_of_ble_eq_true rfl) ?_
  exact ⟨by rw [th_ks, if_pos c_1] <;> rfl, rfl⟩

set_option maxRecDepth 100000 in
set_option maxHeartbeats 4000000 in
theorem c_X5_mapMix (l : Launch) (Y : th_Y) (H : Heap) (a b : Int32) : th_P l Y yX5_mapMix cX5_mapMix 2 (some .int) (th_rm 1 0 0) [.int a, .int b] H (fun r9 => r9 = some (.int (th_jn a b))) := by
  refine th_M.intro (by decide) (Nat.le_of_ble_eq_true rfl) ?_
  intro p e s m args below meth c ls Q hQ C hKN hl hS
  obtain ⟨hx, hb, hr, hml, hown, hts, hlk, hnm⟩ := C
  obtain ⟨hK, hN⟩ := hKN
  have hown : s.vm.findClass RX5 = some m.cls := hown
  have hl : lv_has ls 2 [(0, .int a), (1, .int b)] := hl
  refine lv_iload_n hx hb dX5_mapMix_0 rfl (lv_at hl 0 rfl) ?_
  refine lv_if_ne (tgt := 12) hx hb dX5_mapMix_1 (by decide) (fun c_1 => ?_) (fun c_1 => ?_)
  · skip
    refine lv_iload_n hx hb dX5_mapMix_12 rfl (lv_at hl 0 rfl) ?_
    refine lv_iload_n hx hb dX5_mapMix_13 rfl (lv_at hl 1 rfl) ?_
    refine th_callS hx hb hml hown hts ⟨hK, hN⟩ hl hS (rest := []) (c_X5_mix l Y _ a b) ok_X5_mix tw_3_49 dX5_mapMix_14 rfl rfl (Nat.le_of_ble_eq_true rfl) ⟨Nat.le_of_ble_eq_true rfl, Nat.le_of_ble_eq_true rfl⟩ ⟨Nat.le_of_ble_eq_true rfl, Nat.le_of_ble_eq_true rfl⟩ (fun _ h => h.elim) (th_kpi (fun locs hS => ?_))
    refine th_iret hx hb hr hlk hQ hS dX5_mapMix_17 (Nat.le_of_ble_eq_true rfl) (Nat.le_of_ble_eq_true rfl) ?_
    exact ⟨by rw [th_jn, if_neg (fun z => c_1 z.1)], rfl⟩
  refine lv_iload_n hx hb dX5_mapMix_4 rfl (lv_at hl 1 rfl) ?_
  refine lv_if_ne (tgt := 12) hx hb dX5_mapMix_5 (by decide) (fun c_2 => ?_) (fun c_2 => ?_)
  · skip
    refine lv_iload_n hx hb dX5_mapMix_12 rfl (lv_at hl 0 rfl) ?_
    refine lv_iload_n hx hb dX5_mapMix_13 rfl (lv_at hl 1 rfl) ?_
    refine th_callS hx hb hml hown hts ⟨hK, hN⟩ hl hS (rest := []) (c_X5_mix l Y _ a b) ok_X5_mix tw_3_49 dX5_mapMix_14 rfl rfl (Nat.le_of_ble_eq_true rfl) ⟨Nat.le_of_ble_eq_true rfl, Nat.le_of_ble_eq_true rfl⟩ ⟨Nat.le_of_ble_eq_true rfl, Nat.le_of_ble_eq_true rfl⟩ (fun _ h => h.elim) (th_kpi (fun locs hS => ?_))
    refine th_iret hx hb hr hlk hQ hS dX5_mapMix_17 (Nat.le_of_ble_eq_true rfl) (Nat.le_of_ble_eq_true rfl) ?_
    exact ⟨by rw [th_jn, if_neg (fun z => c_2 z.2)], rfl⟩
  refine lv_iconst (v := nI 0) hx hb dX5_mapMix_8 (by decide) ?_
  refine lv_goto (tgt := 17) hx hb dX5_mapMix_9 (by decide) ?_
  refine th_iret hx hb hr hlk hQ hS dX5_mapMix_17 (Nat.le_of_ble_eq_true rfl) (Nat.le_of_ble_eq_true rfl) ?_
  exact ⟨by rw [th_jn, if_pos ⟨c_1, c_2⟩] <;> rfl, rfl⟩

set_option maxRecDepth 100000 in
set_option maxHeartbeats 4000000 in
theorem c_X6_leafSum (l : Launch) (Y : th_Y) (H : Heap) (v : Int32) : th_P l Y yX6_leafSum cX6_leafSum 1 (some .int) (th_rm 0 0 0) [.int v] H (fun r9 => r9 = some (.int (th_ls v))) := by
  refine th_M.intro (by decide) (Nat.le_of_ble_eq_true rfl) ?_
  intro p e s m args below meth c ls Q hQ C hKN hl hS
  obtain ⟨hx, hb, hr, hml, hown, hts, hlk, hnm⟩ := C
  obtain ⟨hK, hN⟩ := hKN
  have hown : s.vm.findClass RX6 = some m.cls := hown
  have hl : lv_has ls 1 [(0, .int v)] := hl
  refine lv_ldc2 hx hb hown (hts _ tw_4_40) dX6_leafSum_0 ?_
  refine lv_iload_n hx hb dX6_leafSum_3 rfl (lv_at hl 0 rfl) ?_
  refine lv_i2l hx hb dX6_leafSum_4 rfl ?_
  refine lv_lmul hx hb dX6_leafSum_5 ?_
  refine lv_ldc2 hx hb hown (hts _ tw_4_41) dX6_leafSum_6 ?_
  refine lv_ladd hx hb dX6_leafSum_9 ?_
  refine lv_ldc2 hx hb hown (hts _ tw_4_42) dX6_leafSum_10 ?_
  refine lv_lrem hx hb dX6_leafSum_13 (by decide) ?_
  refine lv_l2i hx hb dX6_leafSum_14 rfl ?_
  refine th_iret hx hb hr hlk hQ hS dX6_leafSum_15 (Nat.le_of_ble_eq_true rfl) (Nat.le_of_ble_eq_true rfl) ?_
  exact ⟨rfl, rfl⟩

set_option maxRecDepth 100000 in
set_option maxHeartbeats 4000000 in
theorem c_X6_mix (l : Launch) (Y : th_Y) (H : Heap) (a b : Int32) : th_P l Y yX6_mix cX6_mix 2 (some .int) (th_rm 0 0 0) [.int a, .int b] H (fun r9 => r9 = some (.int (th_mx a b))) := by
  refine th_M.intro (by decide) (Nat.le_of_ble_eq_true rfl) ?_
  intro p e s m args below meth c ls Q hQ C hKN hl hS
  obtain ⟨hx, hb, hr, hml, hown, hts, hlk, hnm⟩ := C
  obtain ⟨hK, hN⟩ := hKN
  have hown : s.vm.findClass RX6 = some m.cls := hown
  have hl : lv_has ls 2 [(0, .int a), (1, .int b)] := hl
  refine lv_ldc2 hx hb hown (hts _ tw_4_46) dX6_mix_0 ?_
  refine lv_iload_n hx hb dX6_mix_3 rfl (lv_at hl 0 rfl) ?_
  refine lv_i2l hx hb dX6_mix_4 rfl ?_
  refine lv_lmul hx hb dX6_mix_5 ?_
  refine lv_ldc2 hx hb hown (hts _ tw_4_47) dX6_mix_6 ?_
  refine lv_iload_n hx hb dX6_mix_9 rfl (lv_at hl 1 rfl) ?_
  refine lv_i2l hx hb dX6_mix_10 rfl ?_
  refine lv_lmul hx hb dX6_mix_11 ?_
  refine lv_ladd hx hb dX6_mix_12 ?_
  refine lv_ldc2 hx hb hown (hts _ tw_4_48) dX6_mix_13 ?_
  refine lv_ladd hx hb dX6_mix_16 ?_
  refine lv_ldc2 hx hb hown (hts _ tw_4_42) dX6_mix_17 ?_
  refine lv_lrem hx hb dX6_mix_20 (by decide) ?_
  refine lv_l2i hx hb dX6_mix_21 rfl ?_
  refine th_iret hx hb hr hlk hQ hS dX6_mix_22 (Nat.le_of_ble_eq_true rfl) (Nat.le_of_ble_eq_true rfl) ?_
  exact ⟨rfl, rfl⟩

set_option maxRecDepth 100000 in
set_option maxHeartbeats 4000000 in
theorem c_X6_keySum (l : Launch) (Y : th_Y) (H : Heap) (v : Int32) : th_P l Y yX6_keySum cX6_keySum 1 (some .int) (th_rm 1 0 0) [.int v] H (fun r9 => r9 = some (.int (th_ks v))) := by
  refine th_M.intro (by decide) (Nat.le_of_ble_eq_true rfl) ?_
  intro p e s m args below meth c ls Q hQ C hKN hl hS
  obtain ⟨hx, hb, hr, hml, hown, hts, hlk, hnm⟩ := C
  obtain ⟨hK, hN⟩ := hKN
  have hown : s.vm.findClass RX6 = some m.cls := hown
  have hl : lv_has ls 1 [(0, .int v)] := hl
  refine lv_iload_n hx hb dX6_keySum_0 rfl (lv_at hl 0 rfl) ?_
  refine lv_iconst (v := -1) hx hb dX6_keySum_1 (by decide) ?_
  refine lv_icmp_ne (tgt := 9) hx hb dX6_keySum_2 (by decide) (fun c_1 => ?_) (fun c_1 => ?_)
  · skip
    refine lv_iload_n hx hb dX6_keySum_9 rfl (lv_at hl 0 rfl) ?_
    refine lv_iconst (v := nI 1) hx hb dX6_keySum_10 (by decide) ?_
    refine lv_iadd hx hb dX6_keySum_11 ?_
    refine th_callS hx hb hml hown hts ⟨hK, hN⟩ hl hS (rest := []) (c_X6_leafSum l Y _ (v + (nI 1))) ok_X6_leafSum tw_4_37 dX6_keySum_12 rfl rfl (Nat.le_of_ble_eq_true rfl) ⟨Nat.le_of_ble_eq_true rfl, Nat.le_of_ble_eq_true rfl⟩ ⟨Nat.le_of_ble_eq_true rfl, Nat.le_of_ble_eq_true rfl⟩ (fun _ h => h.elim) (th_kpi (fun locs hS => ?_))
    refine th_iret hx hb hr hlk hQ hS dX6_keySum_15 (Nat.le_of_ble_eq_true rfl) (Nat.le_of_ble_eq_true rfl) ?_
    exact ⟨by rw [th_ks, if_neg c_1] <;> rfl, rfl⟩
  refine lv_iconst (v := nI 0) hx hb dX6_keySum_5 (by decide) ?_
  refine lv_goto (tgt := 15) hx hb dX6_keySum_6 (by decide) ?_
  refine th_iret hx hb hr hlk hQ hS dX6_keySum_15 (Nat.le_of_ble_eq_true rfl) (Nat.le_of_ble_eq_true rfl) ?_
  exact ⟨by rw [th_ks, if_pos c_1] <;> rfl, rfl⟩

set_option maxRecDepth 100000 in
set_option maxHeartbeats 4000000 in
theorem c_X6_join (l : Launch) (Y : th_Y) (H : Heap) (a b : Int32) : th_P l Y yX6_join cX6_join 2 (some .int) (th_rm 1 0 0) [.int a, .int b] H (fun r9 => r9 = some (.int (th_jn a b))) := by
  refine th_M.intro (by decide) (Nat.le_of_ble_eq_true rfl) ?_
  intro p e s m args below meth c ls Q hQ C hKN hl hS
  obtain ⟨hx, hb, hr, hml, hown, hts, hlk, hnm⟩ := C
  obtain ⟨hK, hN⟩ := hKN
  have hown : s.vm.findClass RX6 = some m.cls := hown
  have hl : lv_has ls 2 [(0, .int a), (1, .int b)] := hl
  refine lv_iload_n hx hb dX6_join_0 rfl (lv_at hl 0 rfl) ?_
  refine lv_if_ne (tgt := 12) hx hb dX6_join_1 (by decide) (fun c_1 => ?_) (fun c_1 => ?_)
  · skip
    refine lv_iload_n hx hb dX6_join_12 rfl (lv_at hl 0 rfl) ?_
    refine lv_iload_n hx hb dX6_join_13 rfl (lv_at hl 1 rfl) ?_
    refine th_callS hx hb hml hown hts ⟨hK, hN⟩ hl hS (rest := []) (c_X6_mix l Y _ a b) ok_X6_mix tw_4_43 dX6_join_14 rfl rfl (Nat.le_of_ble_eq_true rfl) ⟨Nat.le_of_ble_eq_true rfl, Nat.le_of_ble_eq_true rfl⟩ ⟨Nat.le_of_ble_eq_true rfl, Nat.le_of_ble_eq_true rfl⟩ (fun _ h => h.elim) (th_kpi (fun locs hS => ?_))
    refine th_iret hx hb hr hlk hQ hS dX6_join_17 (Nat.le_of_ble_eq_true rfl) (Nat.le_of_ble_eq_true rfl) ?_
    exact ⟨by rw [th_jn, if_neg (fun z => c_1 z.1)], rfl⟩
  refine lv_iload_n hx hb dX6_join_4 rfl (lv_at hl 1 rfl) ?_
  refine lv_if_ne (tgt := 12) hx hb dX6_join_5 (by decide) (fun c_2 => ?_) (fun c_2 => ?_)
  · skip
    refine lv_iload_n hx hb dX6_join_12 rfl (lv_at hl 0 rfl) ?_
    refine lv_iload_n hx hb dX6_join_13 rfl (lv_at hl 1 rfl) ?_
    refine th_callS hx hb hml hown hts ⟨hK, hN⟩ hl hS (rest := []) (c_X6_mix l Y _ a b) ok_X6_mix tw_4_43 dX6_join_14 rfl rfl (Nat.le_of_ble_eq_true rfl) ⟨Nat.le_of_ble_eq_true rfl, Nat.le_of_ble_eq_true rfl⟩ ⟨Nat.le_of_ble_eq_true rfl, Nat.le_of_ble_eq_true rfl⟩ (fun _ h => h.elim) (th_kpi (fun locs hS => ?_))
    refine th_iret hx hb hr hlk hQ hS dX6_join_17 (Nat.le_of_ble_eq_true rfl) (Nat.le_of_ble_eq_true rfl) ?_
    exact ⟨by rw [th_jn, if_neg (fun z => c_2 z.2)], rfl⟩
  refine lv_iconst (v := nI 0) hx hb dX6_join_8 (by decide) ?_
  refine lv_goto (tgt := 17) hx hb dX6_join_9 (by decide) ?_
  refine th_iret hx hb hr hlk hQ hS dX6_join_17 (Nat.le_of_ble_eq_true rfl) (Nat.le_of_ble_eq_true rfl) ?_
  exact ⟨by rw [th_jn, if_pos ⟨c_1, c_2⟩] <;> rfl, rfl⟩

set_option maxRecDepth 100000 in
set_option maxHeartbeats 4000000 in
theorem c_X2_greatestPowerBelow (l : Launch) (Y : th_Y) (H : Heap) (n : Nat) (h2 : 2 ≤ n) (hn : n ≤ 128) : th_P l Y yX2_greatestPowerBelow cX2_greatestPowerBelow 3 (some .int) (th_rm 0 0 0) [.int (nI n)] H (fun r9 => r9 = some (.int (nI (th_sp n)))) := by
  refine th_M.intro (by decide) (Nat.le_of_ble_eq_true rfl) ?_
  intro p e s m args below meth c ls Q hQ C hKN hl hS
  obtain ⟨hx, hb, hr, hml, hown, hts, hlk, hnm⟩ := C
  obtain ⟨hK, hN⟩ := hKN
  have hown : s.vm.findClass RX2 = some m.cls := hown
  have hl : lv_has ls 3 [(0, .int (nI n))] := hl
  refine lv_iconst (v := nI 1) hx hb dX2_greatestPowerBelow_0 (by decide) ?_
  refine lv_istore_n (lv' := [(1, .int (nI 1)), (0, .int (nI n))]) hx hb dX2_greatestPowerBelow_1 rfl hl (by decide) rfl (fun ls hl => ?_)
  refine lv_iconst (v := nI 0) hx hb dX2_greatestPowerBelow_2 (by decide) ?_
  refine lv_istore_n (lv' := [(2, .int (nI 0)), (1, .int (nI 1)), (0, .int (nI n))]) hx hb dX2_greatestPowerBelow_3 rfl hl (by decide) rfl (fun ls hl => ?_)
  have lp_1 : ∀ (n_2 : Nat) (pw : Nat) (lev : Nat) (locs : List Loc) (ls : Array Slot), 7 - lev < n_2 → (pw = 2 ^ lev) → (pw < n) → (lev ≤ 7) → va_S (th_no) H H locs → lv_has ls 3 [(0, .int (nI n)), (1, .int (nI pw)), (2, .int (nI lev))] → W p l e (th_rm 0 0 0) s m args below meth c H locs 0 0 Q (F0 m 4 ls []) := by
    intro n_2; induction n_2 with
    | zero => intros; exfalso; omega
    | succ n_2 ih =>
      intro pw lev locs ls hmz hpw hlt hlv hS hl
      refine lv_iload_n hx hb dX2_greatestPowerBelow_4 rfl (lv_at hl 2 rfl) ?_
      refine lv_bipush (v := nI 7) hx hb dX2_greatestPowerBelow_5 (by decide) ?_
      refine th_ige (tgt := 27) hx hb dX2_greatestPowerBelow_7 (by decide) (by omega) (by omega) (fun c_3 => by exfalso; have h9 := Nat.pow_le_pow_right (n := 2) (by decide) c_3; simp only [Nat.reducePow] at h9; omega) (fun c_3 => ?_)
      refine lv_iconst (v := nI 2) hx hb dX2_greatestPowerBelow_10 (by decide) ?_
      refine lv_iload_n hx hb dX2_greatestPowerBelow_11 rfl (lv_at hl 1 rfl) ?_
      refine lv_imul hx hb dX2_greatestPowerBelow_12 ?_
      refine th_ti (pk_mul _ _) ?_
      refine lv_iload_n hx hb dX2_greatestPowerBelow_13 rfl (lv_at hl 0 rfl) ?_
      refine th_ige (tgt := 27) hx hb dX2_greatestPowerBelow_14 (by decide) (by omega) (by omega) (fun c_4 => ?_) (fun c_4 => ?_)
      · skip
        refine lv_iload_n hx hb dX2_greatestPowerBelow_27 rfl (lv_at hl 1 rfl) ?_
        refine th_iret hx hb hr hlk hQ hS dX2_greatestPowerBelow_28 (Nat.le_of_ble_eq_true rfl) (Nat.le_of_ble_eq_true rfl) ?_
        exact ⟨congrArg (fun z => some (Value.int (nI z))) (by rw [hpw]; exact (th_sp_eq (by omega) (by rw [Nat.pow_succ]; omega)).symm), rfl⟩
      refine lv_iconst (v := nI 2) hx hb dX2_greatestPowerBelow_17 (by decide) ?_
      refine lv_iload_n hx hb dX2_greatestPowerBelow_18 rfl (lv_at hl 1 rfl) ?_
      refine lv_imul hx hb dX2_greatestPowerBelow_19 ?_
      refine th_ti (pk_mul _ _) ?_
      refine lv_istore_n (lv' := [(1, .int (nI (2 * pw))), (0, .int (nI n)), (2, .int (nI lev))]) hx hb dX2_greatestPowerBelow_20 rfl hl (by decide) rfl (fun ls hl => ?_)
      refine lv_iinc (v := nI (lev + 1)) (lv' := [(2, .int (nI (lev + 1))), (1, .int (nI (2 * pw))), (0, .int (nI n))]) hx hb dX2_greatestPowerBelow_21 hl (k := 2) rfl (nI_add _ 1) (by decide) rfl (fun ls hl => ?_)
      refine lv_goto (tgt := 4) hx hb dX2_greatestPowerBelow_24 (by decide) ?_
      exact ih (2 * pw) (lev + 1) _ _ (by omega) (by rw [Nat.pow_succ]; omega) (by omega) (by omega) hS (lv_sub hl [2, 1, 0] rfl)
  exact lp_1 ((7 - (0)) + 1) (1) (0) _ _ (Nat.lt_succ_self _) (rfl) (by omega) (by omega) hS (lv_sub hl [2, 1, 0] rfl)

set_option maxRecDepth 100000 in
set_option maxHeartbeats 4000000 in
theorem c_X6_split (l : Launch) (Y : th_Y) (H : Heap) (n : Nat) (h2 : 2 ≤ n) (hn : n ≤ 128) : th_P l Y yX6_split cX6_split 2 (some .int) (th_rm 0 0 0) [.int (nI n)] H (fun r9 => r9 = some (.int (nI (th_sp n)))) := by
  refine th_M.intro (by decide) (Nat.le_of_ble_eq_true rfl) ?_
  intro p e s m args below meth c ls Q hQ C hKN hl hS
  obtain ⟨hx, hb, hr, hml, hown, hts, hlk, hnm⟩ := C
  obtain ⟨hK, hN⟩ := hKN
  have hown : s.vm.findClass RX6 = some m.cls := hown
  have hl : lv_has ls 2 [(0, .int (nI n))] := hl
  refine lv_iconst (v := nI 1) hx hb dX6_split_0 (by decide) ?_
  refine lv_istore_n (lv' := [(1, .int (nI 1)), (0, .int (nI n))]) hx hb dX6_split_1 rfl hl (by decide) rfl (fun ls hl => ?_)
  have lp_1 : ∀ (n_2 : Nat) (pw : Nat) (lev : Nat) (locs : List Loc) (ls : Array Slot), n - pw < n_2 → (pw = 2 ^ lev) → (pw < n) → va_S (th_no) H H locs → lv_has ls 2 [(0, .int (nI n)), (1, .int (nI pw))] → W p l e (th_rm 0 0 0) s m args below meth c H locs 0 0 Q (F0 m 2 ls []) := by
    intro n_2; induction n_2 with
    | zero => intros; exfalso; omega
    | succ n_2 ih =>
      intro pw lev locs ls hmz hpw hlt hS hl
      have hp2 : 0 < 2 ^ lev := Nat.two_pow_pos lev
      refine lv_iconst (v := nI 2) hx hb dX6_split_2 (by decide) ?_
      refine lv_iload_n hx hb dX6_split_3 rfl (lv_at hl 1 rfl) ?_
      refine lv_imul hx hb dX6_split_4 ?_
      refine th_ti (pk_mul _ _) ?_
      refine lv_iload_n hx hb dX6_split_5 rfl (lv_at hl 0 rfl) ?_
      refine th_ige (tgt := 16) hx hb dX6_split_6 (by decide) (by omega) (by omega) (fun c_3 => ?_) (fun c_3 => ?_)
      · skip
        refine lv_iload_n hx hb dX6_split_16 rfl (lv_at hl 1 rfl) ?_
        refine th_iret hx hb hr hlk hQ hS dX6_split_17 (Nat.le_of_ble_eq_true rfl) (Nat.le_of_ble_eq_true rfl) ?_
        exact ⟨congrArg (fun z => some (Value.int (nI z))) (by rw [hpw]; exact (th_sp_eq (by omega) (by rw [Nat.pow_succ]; omega)).symm), rfl⟩
      refine lv_iload_n hx hb dX6_split_9 rfl (lv_at hl 1 rfl) ?_
      refine lv_iconst (v := nI 2) hx hb dX6_split_10 (by decide) ?_
      refine lv_imul hx hb dX6_split_11 ?_
      refine th_ti (pk_mul _ _) ?_
      refine lv_istore_n (lv' := [(1, .int (nI (pw * 2))), (0, .int (nI n))]) hx hb dX6_split_12 rfl hl (by decide) rfl (fun ls hl => ?_)
      refine lv_goto (tgt := 2) hx hb dX6_split_13 (by decide) ?_
      exact ih (pw * 2) (lev + 1) _ _ (by omega) (by rw [Nat.pow_succ]; omega) (by omega) hS (lv_sub hl [1, 0] rfl)
  exact lp_1 ((n - (1)) + 1) (1) (0) _ _ (Nat.lt_succ_self _) (rfl) (by omega) hS (lv_sub hl [1, 0] rfl)

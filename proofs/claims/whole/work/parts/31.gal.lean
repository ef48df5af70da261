set_option maxRecDepth 100000 in
set_option maxHeartbeats 4000000 in
theorem c_X5_requireRange (l : Launch) (hl0 : l.stackTraces = false) (Y : th_Y) (H0 : Heap) (x lo hi : Int32) : th_MX l Y yX5_requireRange cX5_requireRange 3 none (th_rm 0 1 6) [.int x, .int lo, .int hi] H0 (th_no) (fun v9 H9 => (v9 = none ∧ lo ≤ x ∧ x ≤ hi) ∧ H9 = H0) (fun E9 _ => E9 = "java/lang/IllegalArgumentException" ∧ ¬ (lo ≤ x ∧ x ≤ hi)) := by
  refine th_MX.intro (by decide) (Nat.le_of_ble_eq_true rfl) ?_
  intro p e s m args below meth c ls Q hQ C hKN hl hS hX
  obtain ⟨hx, hb, hr, hml, hown, hts, hlk, hnm⟩ := C
  obtain ⟨hK, hN⟩ := hKN
  have hown : s.vm.findClass RX5 = some m.cls := hown
  have hl : lv_has ls 3 [(0, .int x), (1, .int lo), (2, .int hi)] := hl
  refine lv_iload_n hx hb dX5_requireRange_0 rfl (lv_at hl 0 rfl) ?_
  refine lv_iload_n hx hb dX5_requireRange_1 rfl (lv_at hl 1 rfl) ?_
  refine lv_icmp_lt (tgt := 10) hx hb dX5_requireRange_2 (by decide) (fun c_1 => ?_) (fun c_1 => ?_)
  · skip
    refine thx_throw (cls := "java/lang/IllegalArgumentException") (text := "a number is out of range") (ik := 168) (is := 170) (ic := 172) hx hb hl0 hml hown hts hl hlk hX hQ hS (by decide) tw_2_11 tw_1_12 ts_170 th_at1 dX5_requireRange_10 dX5_requireRange_13 dX5_requireRange_14 dX5_requireRange_16 dX5_requireRange_19 (Nat.le_of_ble_eq_true rfl) (Nat.le_of_ble_eq_true rfl) (Nat.le_of_ble_eq_true rfl) (Nat.le_of_ble_eq_true rfl) (Nat.le_of_ble_eq_true rfl) (Nat.le_of_ble_eq_true rfl) (fun H9 hsm9 => ?_)
    exact ⟨rfl, fun z9 => th_gtn c_1 z9.1⟩
  refine lv_iload_n hx hb dX5_requireRange_5 rfl (lv_at hl 0 rfl) ?_
  refine lv_iload_n hx hb dX5_requireRange_6 rfl (lv_at hl 2 rfl) ?_
  refine lv_icmp_le (tgt := 20) hx hb dX5_requireRange_7 (by decide) (fun c_2 => ?_) (fun c_2 => ?_)
  · skip
    refine thx_vret hx hb hr hlk hQ hS dX5_requireRange_20 (Nat.le_of_ble_eq_true rfl) (Nat.le_of_ble_eq_true rfl) ?_
    exact ⟨⟨rfl, th_nlt c_1, c_2⟩, rfl⟩
  refine thx_throw (cls := "java/lang/IllegalArgumentException") (text := "a number is out of range") (ik := 168) (is := 170) (ic := 172) hx hb hl0 hml hown hts hl hlk hX hQ hS (by decide) tw_2_11 tw_1_12 ts_170 th_at1 dX5_requireRange_10 dX5_requireRange_13 dX5_requireRange_14 dX5_requireRange_16 dX5_requireRange_19 (Nat.le_of_ble_eq_true rfl) (Nat.le_of_ble_eq_true rfl) (Nat.le_of_ble_eq_true rfl) (Nat.le_of_ble_eq_true rfl) (Nat.le_of_ble_eq_true rfl) (Nat.le_of_ble_eq_true rfl) (fun H9 hsm9 => ?_)
  exact ⟨rfl, fun z9 => c_2 z9.2⟩

set_option maxRecDepth 100000 in
set_option maxHeartbeats 4000000 in
theorem c_X5_requireRoom (l : Launch) (hl0 : l.stackTraces = false) (Y : th_Y) (H0 : Heap) (v a b n : Nat) (f g : Nat → Int32) (hP : va_P Y.1 vwCl [(v, .inr (2, [.int (nI n), .ref a, .ref b])), (a, .inl (Y.2 0, 100, .inl f)), (b, .inl (Y.2 0, 256, .inl g))] H0) (k : Nat) (hk : k ≤ 100) (hn : n ≤ 100) : th_MX l Y yX5_requireRoom cX5_requireRoom 2 none (th_rm 0 1 6) [.ref v, .int (nI k)] H0 (th_no) (fun v9 H9 => (v9 = none ∧ n + k ≤ 100) ∧ H9 = H0) (fun E9 _ => E9 = "java/lang/IllegalStateException" ∧ ¬ (n + k ≤ 100)) := by
  refine th_MX.intro (by decide) (Nat.le_of_ble_eq_true rfl) ?_
  intro p e s m args below meth c ls Q hQ C hKN hl hS hX
  obtain ⟨hx, hb, hr, hml, hown, hts, hlk, hnm⟩ := C
  obtain ⟨hK, hN⟩ := hKN
  have hown : s.vm.findClass RX5 = some m.cls := hown
  have hl : lv_has ls 2 [(0, .ref v), (1, .int (nI k))] := hl
  refine lv_iload_n hx hb dX5_requireRoom_0 rfl (lv_at hl 1 rfl) ?_
  refine lv_bipush (v := nI 100) hx hb dX5_requireRoom_1 (by decide) ?_
  refine lv_aload_n hx hb dX5_requireRoom_3 rfl (lv_at hl 0 rfl) ?_
  refine va_getN (D := Y.1) (ci := 2) (v := .int (nI n)) (C := RX2) (T := TX2) (N := 3) hx hb hts inX2 hown hK hP 0 rfl rfl 0 (by decide) (va_Nw.use rfl (tn_1_94 hN)) (fun _ h9 => h9) rfl dX5_requireRoom_4 ?_
  refine lv_isub hx hb dX5_requireRoom_7 ?_
  refine th_ti (pk_sub (by omega)) ?_
  refine th_ile (tgt := 21) hx hb dX5_requireRoom_8 (by decide) (by omega) (by omega) (fun c_1 => ?_) (fun c_1 => ?_)
  · skip
    refine thx_vret hx hb hr hlk hQ hS dX5_requireRoom_21 (Nat.le_of_ble_eq_true rfl) (Nat.le_of_ble_eq_true rfl) ?_
    exact ⟨⟨rfl, by omega⟩, rfl⟩
  refine thx_throw (cls := "java/lang/IllegalStateException") (text := "the view would have too many leaves") (ik := 61) (is := 173) (ic := 65) hx hb hl0 hml hown hts hl hlk hX hQ hS (by decide) tw_2_30 tw_1_13 ts_173 th_at2 dX5_requireRoom_11 dX5_requireRoom_14 dX5_requireRoom_15 dX5_requireRoom_17 dX5_requireRoom_20 (Nat.le_of_ble_eq_true rfl) (Nat.le_of_ble_eq_true rfl) (Nat.le_of_ble_eq_true rfl) (Nat.le_of_ble_eq_true rfl) (Nat.le_of_ble_eq_true rfl) (Nat.le_of_ble_eq_true rfl) (fun H9 hsm9 => ?_)
  exact ⟨rfl, by omega⟩

set_option maxRecDepth 100000 in
set_option maxHeartbeats 4000000 in
theorem c_X5_viewNumbered (l : Launch) (hl0 : l.stackTraces = false) (Y : th_Y) (H0 : Heap) (ad : Nat → Nat) (nv : Nat) (sz : Nat → Nat) (V B : Nat → Nat → Int32) (cnt : Nat) (ds : Nat → Int32) (wy : Nat → Nat) (wz : Nat → Nat → Int32) (kv ks : Nat → Int32) (K : Nat → Option Nat) (W9 : Nat → Nat → Int32) (hG : th_gP Y ad (th_gS Y ad nv sz V B cnt ds wy wz kv ks K W9) H0) (h3 : nv ≤ 3) (x : Int32) : th_MX l Y yX5_viewNumbered cX5_viewNumbered 3 (some (.object "TreeheadGallery$View")) (th_rm 0 1 6) [.ref (ad 0), .int x] H0 (th_no) (fun v9 H9 => (∃ r9 : Nat, v9 = some (.ref r9) ∧ ∃ j, j < nv ∧ x = nI j ∧ r9 = ad (16 + 3 * j)) ∧ H9 = H0) (fun E9 _ => E9 = "java/lang/IndexOutOfBoundsException" ∧ ¬ th_ir x 0 nv) := by
  refine th_MX.intro (by decide) (Nat.le_of_ble_eq_true rfl) ?_
  intro p e s m args below meth c ls Q hQ C hKN hl hS hX
  obtain ⟨hx, hb, hr, hml, hown, hts, hlk, hnm⟩ := C
  obtain ⟨hK, hN⟩ := hKN
  have hown : s.vm.findClass RX5 = some m.cls := hown
  have hl : lv_has ls 3 [(0, .ref (ad 0)), (1, .int x)] := hl
  refine lv_iload_n hx hb dX5_viewNumbered_0 rfl (lv_at hl 1 rfl) ?_
  refine lv_if_lt (tgt := 22) hx hb dX5_viewNumbered_1 (by decide) (fun c_1 => ?_) (fun c_1 => ?_)
  · skip
    refine lv_null hx hb dX5_viewNumbered_22 ?_
    refine lv_astore_nN (lv' := [(2, .null), (0, .ref (ad 0)), (1, .int x)]) hx hb dX5_viewNumbered_23 rfl hl (by decide) rfl (fun ls hl => ?_)
    refine lv_aload_nN hx hb dX5_viewNumbered_24 rfl (lv_at hl 0 rfl) ?_
    refine lv_ifnonnullN hx hb dX5_viewNumbered_25 ?_
    refine thx_throw (cls := "java/lang/IndexOutOfBoundsException") (text := "no such view") (ik := 72) (is := 164) (ic := 76) hx hb hl0 hml hown hts hl hlk hX hQ hS (by decide) tw_1_179 tw_1_11 ts_164 th_at0 dX5_viewNumbered_28 dX5_viewNumbered_31 dX5_viewNumbered_32 dX5_viewNumbered_34 dX5_viewNumbered_37 (Nat.le_of_ble_eq_true rfl) (Nat.le_of_ble_eq_true rfl) (Nat.le_of_ble_eq_true rfl) (Nat.le_of_ble_eq_true rfl) (Nat.le_of_ble_eq_true rfl) (Nat.le_of_ble_eq_true rfl) (fun H9 hsm9 => ?_)
    exact ⟨rfl, th_neg c_1 (by omega)⟩
  obtain ⟨j, hj, hxj⟩ := nI_of c_1
  subst hxj
  refine lv_iload_n hx hb dX5_viewNumbered_4 rfl (lv_at hl 1 rfl) ?_
  refine lv_aload_n hx hb dX5_viewNumbered_5 rfl (lv_at hl 0 rfl) ?_
  refine va_get (D := Y.1) (ci := 5) (v := .ref (ad 1)) (C := RX5) (T := TX5) (N := 5) hx hb hts inX5 hown hK (th_gO hG) 0 rfl rfl 0 (by decide) (hts _ tw_1_133) (fun _ h9 => h9) rfl dX5_viewNumbered_6 ?_
  refine va_alen (v := nI 3) hx hb hK (th_gO hG) 1 2 rfl rfl rfl dX5_viewNumbered_9 ?_
  refine th_ige (tgt := 22) hx hb dX5_viewNumbered_10 (by decide) (by omega) (by omega) (fun c_2 => ?_) (fun c_2 => ?_)
  · skip
    refine lv_null hx hb dX5_viewNumbered_22 ?_
    refine lv_astore_nN (lv' := [(2, .null), (0, .ref (ad 0)), (1, .int (nI j))]) hx hb dX5_viewNumbered_23 rfl hl (by decide) rfl (fun ls hl => ?_)
    refine lv_aload_nN hx hb dX5_viewNumbered_24 rfl (lv_at hl 0 rfl) ?_
    refine lv_ifnonnullN hx hb dX5_viewNumbered_25 ?_
    refine thx_throw (cls := "java/lang/IndexOutOfBoundsException") (text := "no such view") (ik := 72) (is := 164) (ic := 76) hx hb hl0 hml hown hts hl hlk hX hQ hS (by decide) tw_1_179 tw_1_11 ts_164 th_at0 dX5_viewNumbered_28 dX5_viewNumbered_31 dX5_viewNumbered_32 dX5_viewNumbered_34 dX5_viewNumbered_37 (Nat.le_of_ble_eq_true rfl) (Nat.le_of_ble_eq_true rfl) (Nat.le_of_ble_eq_true rfl) (Nat.le_of_ble_eq_true rfl) (Nat.le_of_ble_eq_true rfl) (Nat.le_of_ble_eq_true rfl) (fun H9 hsm9 => ?_)
    exact ⟨rfl, fun z9 => by have := th_irI hj (by omega) z9; omega⟩
  refine lv_aload_n hx hb dX5_viewNumbered_13 rfl (lv_at hl 0 rfl) ?_
  refine va_get (D := Y.1) (ci := 5) (v := .ref (ad 1)) (C := RX5) (T := TX5) (N := 5) hx hb hts inX5 hown hK (th_gO hG) 0 rfl rfl 0 (by decide) (hts _ tw_1_133) (fun _ h9 => h9) rfl dX5_viewNumbered_14 ?_
  refine lv_iload_n hx hb dX5_viewNumbered_17 rfl (lv_at hl 1 rfl) ?_
  refine th_aald hx hb hK (th_gO hG) 1 2 rfl rfl (j := j) (by omega) (by omega) dX5_viewNumbered_18 (fun b9 hb9 => ?_) (fun hb9 => ?_)
  · obtain ⟨hjv, ub9⟩ := th_vf hb9
    subst ub9
    refine lv_goto (tgt := 23) hx hb dX5_viewNumbered_19 (by decide) ?_
    refine lv_astore_n (lv' := [(2, .ref (ad (16 + 3 * j))), (0, .ref (ad 0)), (1, .int (nI j))]) hx hb dX5_viewNumbered_23 rfl hl (by decide) rfl (fun ls hl => ?_)
    refine lv_aload_n hx hb dX5_viewNumbered_24 rfl (lv_at hl 0 rfl) ?_
    refine lv_ifnonnull (tgt := 38) hx hb dX5_viewNumbered_25 (by decide) ?_
    refine lv_aload_n hx hb dX5_viewNumbered_38 rfl (lv_at hl 0 rfl) ?_
    refine thx_aret hx hb hr hlk hQ hS dX5_viewNumbered_39 (Nat.le_of_ble_eq_true rfl) (Nat.le_of_ble_eq_true rfl) ?_
    exact ⟨⟨_, rfl, j, hjv, rfl, rfl⟩, rfl⟩
  · have hjv := th_vn hb9
    refine lv_goto (tgt := 23) hx hb dX5_viewNumbered_19 (by decide) ?_
    refine lv_astore_nN (lv' := [(2, .null), (0, .ref (ad 0)), (1, .int (nI j))]) hx hb dX5_viewNumbered_23 rfl hl (by decide) rfl (fun ls hl => ?_)
    refine lv_aload_nN hx hb dX5_viewNumbered_24 rfl (lv_at hl 0 rfl) ?_
    refine lv_ifnonnullN hx hb dX5_viewNumbered_25 ?_
    refine thx_throw (cls := "java/lang/IndexOutOfBoundsException") (text := "no such view") (ik := 72) (is := 164) (ic := 76) hx hb hl0 hml hown hts hl hlk hX hQ hS (by decide) tw_1_179 tw_1_11 ts_164 th_at0 dX5_viewNumbered_28 dX5_viewNumbered_31 dX5_viewNumbered_32 dX5_viewNumbered_34 dX5_viewNumbered_37 (Nat.le_of_ble_eq_true rfl) (Nat.le_of_ble_eq_true rfl) (Nat.le_of_ble_eq_true rfl) (Nat.le_of_ble_eq_true rfl) (Nat.le_of_ble_eq_true rfl) (Nat.le_of_ble_eq_true rfl) (fun H9 hsm9 => ?_)
    exact ⟨rfl, fun z9 => hjv (th_irI hj (by omega) z9).2⟩

set_option maxRecDepth 100000 in
set_option maxHeartbeats 4000000 in
theorem c_X5_watcherNumbered (l : Launch) (hl0 : l.stackTraces = false) (Y : th_Y) (H0 : Heap) (ad : Nat → Nat) (nv : Nat) (sz : Nat → Nat) (V B : Nat → Nat → Int32) (cnt : Nat) (ds : Nat → Int32) (wy : Nat → Nat) (wz : Nat → Nat → Int32) (kv ks : Nat → Int32) (K : Nat → Option Nat) (W9 : Nat → Nat → Int32) (hG : th_gP Y ad (th_gS Y ad nv sz V B cnt ds wy wz kv ks K W9) H0) (h3 : nv ≤ 3) (x : Int32) : th_MX l Y yX5_watcherNumbered cX5_watcherNumbered 3 (some (.object "TreeheadGallery$Watcher")) (th_rm 0 1 6) [.ref (ad 0), .int x] H0 (th_no) (fun v9 H9 => (∃ r9 : Nat, v9 = some (.ref r9) ∧ ∃ j, j < 4 ∧ x = nI j ∧ r9 = ad (12 + j)) ∧ H9 = H0) (fun E9 _ => E9 = "java/lang/IndexOutOfBoundsException" ∧ ¬ th_ir x 0 4) := by
  refine th_MX.intro (by decide) (Nat.le_of_ble_eq_true rfl) ?_
  intro p e s m args below meth c ls Q hQ C hKN hl hS hX
  obtain ⟨hx, hb, hr, hml, hown, hts, hlk, hnm⟩ := C
  obtain ⟨hK, hN⟩ := hKN
  have hown : s.vm.findClass RX5 = some m.cls := hown
  have hl : lv_has ls 3 [(0, .ref (ad 0)), (1, .int x)] := hl
  refine lv_iload_n hx hb dX5_watcherNumbered_0 rfl (lv_at hl 1 rfl) ?_
  refine lv_if_lt (tgt := 22) hx hb dX5_watcherNumbered_1 (by decide) (fun c_1 => ?_) (fun c_1 => ?_)
  · skip
    refine lv_null hx hb dX5_watcherNumbered_22 ?_
    refine lv_astore_nN (lv' := [(2, .null), (0, .ref (ad 0)), (1, .int x)]) hx hb dX5_watcherNumbered_23 rfl hl (by decide) rfl (fun ls hl => ?_)
    refine lv_aload_nN hx hb dX5_watcherNumbered_24 rfl (lv_at hl 0 rfl) ?_
    refine lv_ifnonnullN hx hb dX5_watcherNumbered_25 ?_
    refine thx_throw (cls := "java/lang/IndexOutOfBoundsException") (text := "no such watcher") (ik := 72) (is := 166) (ic := 76) hx hb hl0 hml hown hts hl hlk hX hQ hS (by decide) tw_1_179 tw_1_11 ts_166 th_at0 dX5_watcherNumbered_28 dX5_watcherNumbered_31 dX5_watcherNumbered_32 dX5_watcherNumbered_34 dX5_watcherNumbered_37 (Nat.le_of_ble_eq_true rfl) (Nat.le_of_ble_eq_true rfl) (Nat.le_of_ble_eq_true rfl) (Nat.le_of_ble_eq_true rfl) (Nat.le_of_ble_eq_true rfl) (Nat.le_of_ble_eq_true rfl) (fun H9 hsm9 => ?_)
    exact ⟨rfl, th_neg c_1 (by omega)⟩
  obtain ⟨j, hj, hxj⟩ := nI_of c_1
  subst hxj
  refine lv_iload_n hx hb dX5_watcherNumbered_4 rfl (lv_at hl 1 rfl) ?_
  refine lv_aload_n hx hb dX5_watcherNumbered_5 rfl (lv_at hl 0 rfl) ?_
  refine va_get (D := Y.1) (ci := 5) (v := .ref (ad 2)) (C := RX5) (T := TX5) (N := 5) hx hb hts inX5 hown hK (th_gO hG) 0 rfl rfl 1 (by decide) (hts _ tw_1_134) (fun _ h9 => h9) rfl dX5_watcherNumbered_6 ?_
  refine va_alen (v := nI 4) hx hb hK (th_gO hG) 2 3 rfl rfl rfl dX5_watcherNumbered_9 ?_
  refine th_ige (tgt := 22) hx hb dX5_watcherNumbered_10 (by decide) (by omega) (by omega) (fun c_2 => ?_) (fun c_2 => ?_)
  · skip
    refine lv_null hx hb dX5_watcherNumbered_22 ?_
    refine lv_astore_nN (lv' := [(2, .null), (0, .ref (ad 0)), (1, .int (nI j))]) hx hb dX5_watcherNumbered_23 rfl hl (by decide) rfl (fun ls hl => ?_)
    refine lv_aload_nN hx hb dX5_watcherNumbered_24 rfl (lv_at hl 0 rfl) ?_
    refine lv_ifnonnullN hx hb dX5_watcherNumbered_25 ?_
    refine thx_throw (cls := "java/lang/IndexOutOfBoundsException") (text := "no such watcher") (ik := 72) (is := 166) (ic := 76) hx hb hl0 hml hown hts hl hlk hX hQ hS (by decide) tw_1_179 tw_1_11 ts_166 th_at0 dX5_watcherNumbered_28 dX5_watcherNumbered_31 dX5_watcherNumbered_32 dX5_watcherNumbered_34 dX5_watcherNumbered_37 (Nat.le_of_ble_eq_true rfl) (Nat.le_of_ble_eq_true rfl) (Nat.le_of_ble_eq_true rfl) (Nat.le_of_ble_eq_true rfl) (Nat.le_of_ble_eq_true rfl) (Nat.le_of_ble_eq_true rfl) (fun H9 hsm9 => ?_)
    exact ⟨rfl, fun z9 => by have := th_irI hj (by omega) z9; omega⟩
  refine lv_aload_n hx hb dX5_watcherNumbered_13 rfl (lv_at hl 0 rfl) ?_
  refine va_get (D := Y.1) (ci := 5) (v := .ref (ad 2)) (C := RX5) (T := TX5) (N := 5) hx hb hts inX5 hown hK (th_gO hG) 0 rfl rfl 1 (by decide) (hts _ tw_1_134) (fun _ h9 => h9) rfl dX5_watcherNumbered_14 ?_
  refine lv_iload_n hx hb dX5_watcherNumbered_17 rfl (lv_at hl 1 rfl) ?_
  refine th_aald hx hb hK (th_gO hG) 2 3 rfl rfl (j := j) (by omega) (by omega) dX5_watcherNumbered_18 (fun b9 hb9 => ?_) (fun hb9 => by cases hb9)
  cases hb9
  refine lv_goto (tgt := 23) hx hb dX5_watcherNumbered_19 (by decide) ?_
  refine lv_astore_n (lv' := [(2, .ref (ad (12 + j))), (0, .ref (ad 0)), (1, .int (nI j))]) hx hb dX5_watcherNumbered_23 rfl hl (by decide) rfl (fun ls hl => ?_)
  refine lv_aload_n hx hb dX5_watcherNumbered_24 rfl (lv_at hl 0 rfl) ?_
  refine lv_ifnonnull (tgt := 38) hx hb dX5_watcherNumbered_25 (by decide) ?_
  refine lv_aload_n hx hb dX5_watcherNumbered_38 rfl (lv_at hl 0 rfl) ?_
  refine thx_aret hx hb hr hlk hQ hS dX5_watcherNumbered_39 (Nat.le_of_ble_eq_true rfl) (Nat.le_of_ble_eq_true rfl) ?_
  exact ⟨⟨_, rfl, j, by omega, rfl, rfl⟩, rfl⟩

set_option maxRecDepth 100000 in
set_option maxHeartbeats 4000000 in
theorem c_X5_size (l : Launch) (hl0 : l.stackTraces = false) (Y : th_Y) (H0 : Heap) (ad : Nat → Nat) (S : th_S) (Vx B : Nat → Nat → Int32) (dsx kvx ks : Nat → Int32) (wy : Nat → Nat) (wz : Nat → Nat → Int32) (hI : th_I Y ad S Vx B dsx kvx ks wy wz H0) (x1 : Int32) : th_MX l Y yX5_size cX5_size 2 (some .int) (th_rm 6 8 400) [.ref (ad 0), .int x1] H0 (th_gA ad S.1 H0.size) (th_po Y (ad 0) (th_gA ad S.1 H0.size) (sp_size S x1)) (th_px Y ["java/lang/IndexOutOfBoundsException"] (ad 0) (th_gA ad S.1 H0.size) S (sp_size S x1)) := by
  refine th_MX.intro (by decide) (Nat.le_of_ble_eq_true rfl) ?_
  intro p e s m args below meth c ls Q hQ C hKN hl hS hX
  obtain ⟨hx, hb, hr, hml, hown, hts, hlk, hnm⟩ := C
  obtain ⟨hK, hN⟩ := hKN
  have hown : s.vm.findClass RX5 = some m.cls := hown
  have hl : lv_has ls 2 [(0, .ref (ad 0)), (1, .int x1)] := hl
  obtain ⟨hG, hJ, hv⟩ := hI
  have hv1 := hv.1
  have hv12 := hv.2.2.1
  refine lv_aload_n hx hb dX5_size_0 rfl (lv_at hl 0 rfl) ?_
  refine lv_iload_n hx hb dX5_size_1 rfl (lv_at hl 1 rfl) ?_
  refine thx_callV hx hb hml hown hts ⟨hK, hN⟩ hl hS hX ((th_gO hG) 0 _ rfl) rfl (rest := []) (c_X5_viewNumbered l hl0 Y _ ad S.1 S.2.1 Vx B S.2.2.2.1 dsx wy wz kvx ks S.2.2.2.2.2.2.1 S.2.2.2.2.2.2.2 hG hv.1.2 x1) ok_X5_viewNumbered tw_1_175 dX5_size_2 rfl rfl (Nat.le_of_ble_eq_true rfl) ⟨(Nat.le_of_ble_eq_true rfl), (Nat.le_of_ble_eq_true rfl)⟩ ⟨(Nat.le_of_ble_eq_true rfl), (Nat.le_of_ble_eq_true rfl)⟩ (fun _ h => h.elim) ?_ ?_
  · rintro E9 ce9 q9 H9 locs9 ⟨rfl, hng9⟩ hsm9 hS9 hc9 hv9 hcl9
    refine thx_out hlk hX.2.2 hQ hS9 hc9 hv9 hcl9 (Nat.le_of_ble_eq_true rfl) (Nat.le_of_ble_eq_true rfl) ?_
    have q1 : ¬ th_ir x1 0 (S.1) := hng9
    refine ⟨0, rfl, ?_, th_GWs (th_gkeep hG hsm9) hJ hv⟩
    unfold sp_size
    rw [th_ifF (fun z9 => q1 z9)]
    all_goals rfl
  · skip
    refine th_kpr (fun r9 locs hr9 hS => ?_)
    obtain ⟨j1, hj1, ux9, rfl⟩ := hr9
    subst ux9
    have q1 : th_ir (nI j1) 0 (S.1) := th_irN (Nat.zero_le _) hj1
    have zj1 : th_ix (nI j1) = j1 := th_ixN (by have := hv.1; omega)
    obtain ⟨hnj1, hBj1, hfj1⟩ := hv.2.1 j1 hj1
    refine va_getN (D := Y.1) (ci := 2) (v := .int (nI (S.2.1 j1))) (C := RX2) (T := TX2) (N := 3) hx hb hts inX2 hown hK (th_gV hG hj1) 0 rfl rfl 0 (by decide) (va_Nw.use rfl (tn_1_94 hN)) (fun _ h9 => h9) rfl dX5_size_5 ?_
    refine thx_iret hx hb hr hlk hQ hS dX5_size_8 (Nat.le_of_ble_eq_true rfl) (Nat.le_of_ble_eq_true rfl) ?_
    refine ⟨_, rfl, ?_⟩
    unfold sp_size
    simp only [zj1]
    rw [th_ifT q1]
    exact ⟨rfl, rfl, th_GWs hG hJ hv⟩

set_option maxRecDepth 100000 in
set_option maxHeartbeats 4000000 in
theorem c_X5_append (l : Launch) (hl0 : l.stackTraces = false) (Y : th_Y) (H0 : Heap) (ad : Nat → Nat) (S : th_S) (Vx B : Nat → Nat → Int32) (dsx kvx ks : Nat → Int32) (wy : Nat → Nat) (wz : Nat → Nat → Int32) (hI : th_I Y ad S Vx B dsx kvx ks wy wz H0) (x1 x2 : Int32) : th_MX l Y yX5_append cX5_append 4 (some .int) (th_rm 6 8 400) [.ref (ad 0), .int x1, .int x2] H0 (th_gA ad S.1 H0.size) (th_po Y (ad 0) (th_gA ad S.1 H0.size) (sp_append S x1 x2)) (th_px Y ["java/lang/IndexOutOfBoundsException", "java/lang/IllegalArgumentException", "java/lang/IllegalStateException"] (ad 0) (th_gA ad S.1 H0.size) S (sp_append S x1 x2)) := by
  refine th_MX.intro (by decide) (Nat.le_of_ble_eq_true rfl) ?_
  intro p e s m args below meth c ls Q hQ C hKN hl hS hX
  obtain ⟨hx, hb, hr, hml, hown, hts, hlk, hnm⟩ := C
  obtain ⟨hK, hN⟩ := hKN
  have hown : s.vm.findClass RX5 = some m.cls := hown
  have hl : lv_has ls 4 [(0, .ref (ad 0)), (1, .int x1), (2, .int x2)] := hl
  obtain ⟨hG, hJ, hv⟩ := hI
  have hv1 := hv.1
  have hv12 := hv.2.2.1
  refine lv_aload_n hx hb dX5_append_0 rfl (lv_at hl 0 rfl) ?_
  refine lv_iload_n hx hb dX5_append_1 rfl (lv_at hl 1 rfl) ?_
  refine thx_callV hx hb hml hown hts ⟨hK, hN⟩ hl hS hX ((th_gO hG) 0 _ rfl) rfl (rest := []) (c_X5_viewNumbered l hl0 Y _ ad S.1 S.2.1 Vx B S.2.2.2.1 dsx wy wz kvx ks S.2.2.2.2.2.2.1 S.2.2.2.2.2.2.2 hG hv.1.2 x1) ok_X5_viewNumbered tw_1_175 dX5_append_2 rfl rfl (Nat.le_of_ble_eq_true rfl) ⟨(Nat.le_of_ble_eq_true rfl), (Nat.le_of_ble_eq_true rfl)⟩ ⟨(Nat.le_of_ble_eq_true rfl), (Nat.le_of_ble_eq_true rfl)⟩ (fun _ h => h.elim) ?_ ?_
  · rintro E9 ce9 q9 H9 locs9 ⟨rfl, hng9⟩ hsm9 hS9 hc9 hv9 hcl9
    refine thx_out hlk hX.2.2 hQ hS9 hc9 hv9 hcl9 (Nat.le_of_ble_eq_true rfl) (Nat.le_of_ble_eq_true rfl) ?_
    have q1 : ¬ th_ir x1 0 (S.1) := hng9
    refine ⟨0, rfl, ?_, th_GWs (th_gkeep hG hsm9) hJ hv⟩
    unfold sp_append
    rw [th_ifF (fun z9 => q1 z9)]
    all_goals rfl
  · skip
    refine th_kpr (fun r9 locs hr9 hS => ?_)
    obtain ⟨j1, hj1, ux9, rfl⟩ := hr9
    subst ux9
    have q1 : th_ir (nI j1) 0 (S.1) := th_irN (Nat.zero_le _) hj1
    have zj1 : th_ix (nI j1) = j1 := th_ixN (by have := hv.1; omega)
    obtain ⟨hnj1, hBj1, hfj1⟩ := hv.2.1 j1 hj1
    refine lv_astore_n (lv' := [(3, .ref (ad (16 + 3 * j1))), (0, .ref (ad 0)), (1, .int (nI j1)), (2, .int x2)]) hx hb dX5_append_5 rfl hl (by decide) rfl (fun ls hl => ?_)
    refine lv_iload_n hx hb dX5_append_6 rfl (lv_at hl 3 rfl) ?_
    refine lv_iconst (v := nI 0) hx hb dX5_append_7 (by decide) ?_
    refine lv_ldc hx hb hown (hts _ tw_2_7) dX5_append_8 ?_
    refine th_ti (show (65535 : Int32) = nI 65535 from rfl) ?_
    refine thx_callS hx hb hml hown hts ⟨hK, hN⟩ hl hS hX (rest := []) (c_X5_requireRange l hl0 Y _ x2 (nI 0) (nI 65535)) ok_X5_requireRange tw_2_8 dX5_append_10 rfl rfl (Nat.le_of_ble_eq_true rfl) ⟨(Nat.le_of_ble_eq_true rfl), (Nat.le_of_ble_eq_true rfl)⟩ ⟨(Nat.le_of_ble_eq_true rfl), (Nat.le_of_ble_eq_true rfl)⟩ (fun _ h => h.elim) ?_ ?_
    · rintro E9 ce9 q9 H9 locs9 ⟨rfl, hng9⟩ hsm9 hS9 hc9 hv9 hcl9
      refine thx_out hlk hX.2.2 hQ hS9 hc9 hv9 hcl9 (Nat.le_of_ble_eq_true rfl) (Nat.le_of_ble_eq_true rfl) ?_
      have q2 : ¬ th_ir x2 0 65536 := fun z9 => hng9 (th_irB (by omega) (by omega) (th_irE z9 (by omega)))
      refine ⟨1, rfl, ?_, th_GWs (th_gkeep hG hsm9) hJ hv⟩
      unfold sp_append
      simp only [zj1]
      rw [th_ifT q1, th_ifF (fun z9 => q2 z9)]
      all_goals rfl
    · skip
      refine th_kpv (fun locs hr9 hS => ?_)
      have q2 : th_ir x2 0 65536 := th_irE (th_irO (by omega) (by omega) hr9.1 hr9.2) (by omega)
      have uq9 := q2
      obtain ⟨j2, j2a, j2b, ux9⟩ := uq9
      subst ux9
      have zj2 : th_ix (nI j2) = j2 := th_ixN (by omega)
      refine lv_aload_n hx hb dX5_append_13 rfl (lv_at hl 0 rfl) ?_
      refine lv_iconst (v := nI 1) hx hb dX5_append_14 (by decide) ?_
      refine thx_callS hx hb hml hown hts ⟨hK, hN⟩ hl hS hX (rest := []) (c_X5_requireRoom l hl0 Y _ (ad (16 + 3 * j1)) (ad (16 + 3 * j1 + 1)) (ad (16 + 3 * j1 + 2)) (S.2.1 j1) (Vx j1) (B j1) (th_gV hG hj1) 1 (by omega) (by omega)) ok_X5_requireRoom tw_2_27 dX5_append_15 rfl rfl (Nat.le_of_ble_eq_true rfl) ⟨(Nat.le_of_ble_eq_true rfl), (Nat.le_of_ble_eq_true rfl)⟩ ⟨(Nat.le_of_ble_eq_true rfl), (Nat.le_of_ble_eq_true rfl)⟩ (fun _ h => h.elim) ?_ ?_
      · rintro E9 ce9 q9 H9 locs9 ⟨rfl, hng9⟩ hsm9 hS9 hc9 hv9 hcl9
        refine thx_out hlk hX.2.2 hQ hS9 hc9 hv9 hcl9 (Nat.le_of_ble_eq_true rfl) (Nat.le_of_ble_eq_true rfl) ?_
        have q3 : ¬ (S.2.1 j1 < 100) := by omega
        refine ⟨2, rfl, ?_, th_GWs (th_gkeep hG hsm9) hJ hv⟩
        unfold sp_append
        simp only [zj1, zj2]
        rw [th_ifT q1, th_ifT q2, th_ifF (fun z9 => q3 z9)]
        all_goals rfl
      · skip
        refine th_kpv (fun locs hr9 hS => ?_)
        have q3 : S.2.1 j1 < 100 := by omega
        refine lv_aload_n hx hb dX5_append_18 rfl (lv_at hl 0 rfl) ?_
        refine lv_iload_n hx hb dX5_append_19 rfl (lv_at hl 3 rfl) ?_
        refine th_callV hx hb hml hown hts ⟨hK, hN⟩ hl hS ((th_gV hG hj1) 0 _ rfl) rfl (rest := []) (c_X2_add l Y _ (ad (16 + 3 * j1)) (ad (16 + 3 * j1 + 1)) (ad (16 + 3 * j1 + 2)) (S.2.1 j1) (Vx j1) (B j1) (th_gV hG hj1) (th_gD hJ [16 + 3 * j1, 16 + 3 * j1 + 1, 16 + 3 * j1 + 2] (fun k9 hk9 => by simp only [List.mem_cons, List.not_mem_nil, or_false] at hk9; omega) (th_ndV _) rfl) (nI j2) (by omega) hBj1) ok_X2_add tw_2_46 dX5_append_20 rfl rfl (Nat.le_of_ble_eq_true rfl) ⟨Nat.le_of_ble_eq_true rfl, Nat.le_of_ble_eq_true rfl⟩ ⟨Nat.le_of_ble_eq_true rfl, Nat.le_of_ble_eq_true rfl⟩ (th_gAm (ad := ad) [16 + 3 * j1, 16 + 3 * j1 + 1, 16 + 3 * j1 + 2] (fun k9 hk9 => by simp only [List.mem_cons, List.not_mem_nil, or_false] at hk9; omega)) (th_kv (fun H locs hp hsm hS => ?_))
        obtain ⟨g9, hPc, hBc⟩ := hp
        have hG := th_guV hG hJ hj1 hsm hPc
        have hP : va_P Y.1 vwCl [(ad (16 + 3 * j1), .inr (2, [.int (nI (S.2.1 j1 + 1)), .ref (ad (16 + 3 * j1 + 1)), .ref (ad (16 + 3 * j1 + 2))])), (ad (16 + 3 * j1 + 1), .inl (Y.2 0, 100, .inl (upd (Vx j1) (S.2.1 j1) (nI j2)))), (ad (16 + 3 * j1 + 2), .inl (Y.2 0, 256, .inl g9))] _ := hPc
        refine lv_aload_n hx hb dX5_append_23 rfl (lv_at hl 0 rfl) ?_
        refine va_getN (D := Y.1) (ci := 2) (v := .int (nI (S.2.1 j1 + 1))) (C := RX2) (T := TX2) (N := 3) hx hb hts inX2 hown hK hP 0 rfl rfl 0 (by decide) (va_Nw.use rfl (tn_1_94 hN)) (fun _ h9 => h9) rfl dX5_append_24 ?_
        refine lv_iconst (v := nI 1) hx hb dX5_append_27 (by decide) ?_
        refine lv_isub hx hb dX5_append_28 ?_
        refine th_ti (show (nI (S.2.1 j1 + 1)) - (nI 1) = nI (S.2.1 j1) from (pk_sub (by omega)).trans (congrArg nI (by omega))) ?_
        refine thx_iret hx hb hr hlk hQ hS dX5_append_29 (Nat.le_of_ble_eq_true rfl) (Nat.le_of_ble_eq_true rfl) ?_
        refine ⟨_, rfl, ?_⟩
        unfold sp_append
        simp only [zj1, zj2]
        rw [th_ifT q1, th_ifT q2, th_ifT q3]
        exact ⟨rfl, rfl, th_GWV hG hJ hv (by omega) (by omega) hBc (th_upE hfj1 q2)⟩

set_option maxRecDepth 100000 in
set_option maxHeartbeats 4000000 in
theorem c_X5_leaf (l : Launch) (hl0 : l.stackTraces = false) (Y : th_Y) (H0 : Heap) (ad : Nat → Nat) (S : th_S) (Vx B : Nat → Nat → Int32) (dsx kvx ks : Nat → Int32) (wy : Nat → Nat) (wz : Nat → Nat → Int32) (hI : th_I Y ad S Vx B dsx kvx ks wy wz H0) (x1 x2 : Int32) : th_MX l Y yX5_leaf cX5_leaf 4 (some .int) (th_rm 6 8 400) [.ref (ad 0), .int x1, .int x2] H0 (th_gA ad S.1 H0.size) (th_po Y (ad 0) (th_gA ad S.1 H0.size) (sp_leaf S x1 x2)) (th_px Y ["java/lang/IndexOutOfBoundsException"] (ad 0) (th_gA ad S.1 H0.size) S (sp_leaf S x1 x2)) := by
  refine th_MX.intro (by decide) (Nat.le_of_ble_eq_true rfl) ?_
  intro p e s m args below meth c ls Q hQ C hKN hl hS hX
  obtain ⟨hx, hb, hr, hml, hown, hts, hlk, hnm⟩ := C
  obtain ⟨hK, hN⟩ := hKN
  have hown : s.vm.findClass RX5 = some m.cls := hown
  have hl : lv_has ls 4 [(0, .ref (ad 0)), (1, .int x1), (2, .int x2)] := hl
  obtain ⟨hG, hJ, hv⟩ := hI
  have hv1 := hv.1
  have hv12 := hv.2.2.1
  refine lv_aload_n hx hb dX5_leaf_0 rfl (lv_at hl 0 rfl) ?_
  refine lv_iload_n hx hb dX5_leaf_1 rfl (lv_at hl 1 rfl) ?_
  refine thx_callV hx hb hml hown hts ⟨hK, hN⟩ hl hS hX ((th_gO hG) 0 _ rfl) rfl (rest := []) (c_X5_viewNumbered l hl0 Y _ ad S.1 S.2.1 Vx B S.2.2.2.1 dsx wy wz kvx ks S.2.2.2.2.2.2.1 S.2.2.2.2.2.2.2 hG hv.1.2 x1) ok_X5_viewNumbered tw_1_175 dX5_leaf_2 rfl rfl (Nat.le_of_ble_eq_true rfl) ⟨(Nat.le_of_ble_eq_true rfl), (Nat.le_of_ble_eq_true rfl)⟩ ⟨(Nat.le_of_ble_eq_true rfl), (Nat.le_of_ble_eq_true rfl)⟩ (fun _ h => h.elim) ?_ ?_
  · rintro E9 ce9 q9 H9 locs9 ⟨rfl, hng9⟩ hsm9 hS9 hc9 hv9 hcl9
    refine thx_out hlk hX.2.2 hQ hS9 hc9 hv9 hcl9 (Nat.le_of_ble_eq_true rfl) (Nat.le_of_ble_eq_true rfl) ?_
    have q1 : ¬ th_ir x1 0 (S.1) := hng9
    refine ⟨0, rfl, ?_, th_GWs (th_gkeep hG hsm9) hJ hv⟩
    unfold sp_leaf
    rw [th_ifF (fun z9 => q1 z9.1)]
    all_goals rfl
  · skip
    refine th_kpr (fun r9 locs hr9 hS => ?_)
    obtain ⟨j1, hj1, ux9, rfl⟩ := hr9
    subst ux9
    have q1 : th_ir (nI j1) 0 (S.1) := th_irN (Nat.zero_le _) hj1
    have zj1 : th_ix (nI j1) = j1 := th_ixN (by have := hv.1; omega)
    obtain ⟨hnj1, hBj1, hfj1⟩ := hv.2.1 j1 hj1
    refine lv_astore_n (lv' := [(3, .ref (ad (16 + 3 * j1))), (0, .ref (ad 0)), (1, .int (nI j1)), (2, .int x2)]) hx hb dX5_leaf_5 rfl hl (by decide) rfl (fun ls hl => ?_)
    refine lv_iload_n hx hb dX5_leaf_6 rfl (lv_at hl 3 rfl) ?_
    refine lv_if_lt (tgt := 18) hx hb dX5_leaf_7 (by decide) (fun c_1 => ?_) (fun c_1 => ?_)
    · skip
      have q2 : ¬ th_ir x2 0 (S.2.1 j1) := th_neg c_1 (by omega)
      refine thx_throw (cls := "java/lang/IndexOutOfBoundsException") (text := "no such leaf") (ik := 72) (is := 74) (ic := 76) hx hb hl0 hml hown hts hl hlk hX hQ hS (by decide) tw_1_179 tw_1_11 ts_74 th_at0 dX5_leaf_18 dX5_leaf_21 dX5_leaf_22 dX5_leaf_24 dX5_leaf_27 (Nat.le_of_ble_eq_true rfl) (Nat.le_of_ble_eq_true rfl) (Nat.le_of_ble_eq_true rfl) (Nat.le_of_ble_eq_true rfl) (Nat.le_of_ble_eq_true rfl) (Nat.le_of_ble_eq_true rfl) (fun H9 hsm9 => ?_)
      refine ⟨0, rfl, ?_, th_GWs (th_gkeep hG hsm9) hJ hv⟩
      unfold sp_leaf
      simp only [zj1]
      rw [th_ifF (fun z9 => q2 z9.2)]
      all_goals rfl
    obtain ⟨j2, hj2, hx2⟩ := nI_of c_1
    subst hx2
    have zj2 : th_ix (nI j2) = j2 := th_ixN hj2
    refine lv_iload_n hx hb dX5_leaf_10 rfl (lv_at hl 3 rfl) ?_
    refine lv_aload_n hx hb dX5_leaf_11 rfl (lv_at hl 0 rfl) ?_
    refine va_getN (D := Y.1) (ci := 2) (v := .int (nI (S.2.1 j1))) (C := RX2) (T := TX2) (N := 3) hx hb hts inX2 hown hK (th_gV hG hj1) 0 rfl rfl 0 (by decide) (va_Nw.use rfl (tn_1_94 hN)) (fun _ h9 => h9) rfl dX5_leaf_12 ?_
    refine th_ilt (tgt := 28) hx hb dX5_leaf_15 (by decide) (by omega) (by omega) (fun c_2 => ?_) (fun c_2 => ?_)
    · skip
      refine lv_aload_n hx hb dX5_leaf_28 rfl (lv_at hl 0 rfl) ?_
      refine lv_iload_n hx hb dX5_leaf_29 rfl (lv_at hl 3 rfl) ?_
      refine th_callV hx hb hml hown hts ⟨hK, hN⟩ hl hS ((th_gV hG hj1) 0 _ rfl) rfl (rest := []) (c_X2_valueAt l Y _ (ad (16 + 3 * j1)) (ad (16 + 3 * j1 + 1)) (ad (16 + 3 * j1 + 2)) (S.2.1 j1) (Vx j1) (B j1) (th_gV hG hj1) j2 (by omega) hnj1) ok_X2_valueAt tw_2_77 dX5_leaf_30 rfl rfl (Nat.le_of_ble_eq_true rfl) ⟨Nat.le_of_ble_eq_true rfl, Nat.le_of_ble_eq_true rfl⟩ ⟨Nat.le_of_ble_eq_true rfl, Nat.le_of_ble_eq_true rfl⟩ (fun _ h => h.elim) (th_kpi (fun locs hS => ?_))
      refine th_ti ((hfj1 j2 (by omega)).1) ?_
      refine thx_iret hx hb hr hlk hQ hS dX5_leaf_33 (Nat.le_of_ble_eq_true rfl) (Nat.le_of_ble_eq_true rfl) ?_
      have q2 : th_ir (nI j2) 0 (S.2.1 j1) := th_irN (Nat.zero_le _) (by omega)
      refine ⟨_, rfl, ?_⟩
      unfold sp_leaf
      simp only [zj1, zj2]
      rw [th_ifT ⟨q1, q2⟩]
      exact ⟨rfl, rfl, th_GWs hG hJ hv⟩
    have q2 : ¬ th_ir (nI j2) 0 (S.2.1 j1) := fun z9 => by have := th_irI hj2 (by omega) z9; omega
    refine thx_throw (cls := "java/lang/IndexOutOfBoundsException") (text := "no such leaf") (ik := 72) (is := 74) (ic := 76) hx hb hl0 hml hown hts hl hlk hX hQ hS (by decide) tw_1_179 tw_1_11 ts_74 th_at0 dX5_leaf_18 dX5_leaf_21 dX5_leaf_22 dX5_leaf_24 dX5_leaf_27 (Nat.le_of_ble_eq_true rfl) (Nat.le_of_ble_eq_true rfl) (Nat.le_of_ble_eq_true rfl) (Nat.le_of_ble_eq_true rfl) (Nat.le_of_ble_eq_true rfl) (Nat.le_of_ble_eq_true rfl) (fun H9 hsm9 => ?_)
    refine ⟨0, rfl, ?_, th_GWs (th_gkeep hG hsm9) hJ hv⟩
    unfold sp_leaf
    simp only [zj1, zj2]
    rw [th_ifF (fun z9 => q2 z9.2)]
    all_goals rfl

set_option maxRecDepth 100000 in
set_option maxHeartbeats 4000000 in
theorem c_X5_root (l : Launch) (hl0 : l.stackTraces = false) (Y : th_Y) (H0 : Heap) (ad : Nat → Nat) (S : th_S) (Vx B : Nat → Nat → Int32) (dsx kvx ks : Nat → Int32) (wy : Nat → Nat) (wz : Nat → Nat → Int32) (hI : th_I Y ad S Vx B dsx kvx ks wy wz H0) (x1 x2 : Int32) : th_MX l Y yX5_root cX5_root 4 (some .int) (th_rm 6 8 400) [.ref (ad 0), .int x1, .int x2] H0 (th_gA ad S.1 H0.size) (th_po Y (ad 0) (th_gA ad S.1 H0.size) (sp_root S x1 x2)) (th_px Y ["java/lang/IndexOutOfBoundsException", "java/lang/IllegalArgumentException"] (ad 0) (th_gA ad S.1 H0.size) S (sp_root S x1 x2)) := by
  refine th_MX.intro (by decide) (Nat.le_of_ble_eq_true rfl) ?_
  intro p e s m args below meth c ls Q hQ C hKN hl hS hX
  obtain ⟨hx, hb, hr, hml, hown, hts, hlk, hnm⟩ := C
  obtain ⟨hK, hN⟩ := hKN
  have hown : s.vm.findClass RX5 = some m.cls := hown
  have hl : lv_has ls 4 [(0, .ref (ad 0)), (1, .int x1), (2, .int x2)] := hl
  obtain ⟨hG, hJ, hv⟩ := hI
  have hv1 := hv.1
  have hv12 := hv.2.2.1
  refine lv_aload_n hx hb dX5_root_0 rfl (lv_at hl 0 rfl) ?_
  refine lv_iload_n hx hb dX5_root_1 rfl (lv_at hl 1 rfl) ?_
  refine thx_callV hx hb hml hown hts ⟨hK, hN⟩ hl hS hX ((th_gO hG) 0 _ rfl) rfl (rest := []) (c_X5_viewNumbered l hl0 Y _ ad S.1 S.2.1 Vx B S.2.2.2.1 dsx wy wz kvx ks S.2.2.2.2.2.2.1 S.2.2.2.2.2.2.2 hG hv.1.2 x1) ok_X5_viewNumbered tw_1_175 dX5_root_2 rfl rfl (Nat.le_of_ble_eq_true rfl) ⟨(Nat.le_of_ble_eq_true rfl), (Nat.le_of_ble_eq_true rfl)⟩ ⟨(Nat.le_of_ble_eq_true rfl), (Nat.le_of_ble_eq_true rfl)⟩ (fun _ h => h.elim) ?_ ?_
  · rintro E9 ce9 q9 H9 locs9 ⟨rfl, hng9⟩ hsm9 hS9 hc9 hv9 hcl9
    refine thx_out hlk hX.2.2 hQ hS9 hc9 hv9 hcl9 (Nat.le_of_ble_eq_true rfl) (Nat.le_of_ble_eq_true rfl) ?_
    have q1 : ¬ th_ir x1 0 (S.1) := hng9
    refine ⟨0, rfl, ?_, th_GWs (th_gkeep hG hsm9) hJ hv⟩
    unfold sp_root
    rw [th_ifF (fun z9 => q1 z9)]
    all_goals rfl
  · skip
    refine th_kpr (fun r9 locs hr9 hS => ?_)
    obtain ⟨j1, hj1, ux9, rfl⟩ := hr9
    subst ux9
    have q1 : th_ir (nI j1) 0 (S.1) := th_irN (Nat.zero_le _) hj1
    have zj1 : th_ix (nI j1) = j1 := th_ixN (by have := hv.1; omega)
    obtain ⟨hnj1, hBj1, hfj1⟩ := hv.2.1 j1 hj1
    refine lv_astore_n (lv' := [(3, .ref (ad (16 + 3 * j1))), (0, .ref (ad 0)), (1, .int (nI j1)), (2, .int x2)]) hx hb dX5_root_5 rfl hl (by decide) rfl (fun ls hl => ?_)
    refine lv_iload_n hx hb dX5_root_6 rfl (lv_at hl 3 rfl) ?_
    refine lv_iconst (v := nI 0) hx hb dX5_root_7 (by decide) ?_
    refine lv_aload_n hx hb dX5_root_8 rfl (lv_at hl 0 rfl) ?_
    refine va_getN (D := Y.1) (ci := 2) (v := .int (nI (S.2.1 j1))) (C := RX2) (T := TX2) (N := 3) hx hb hts inX2 hown hK (th_gV hG hj1) 0 rfl rfl 0 (by decide) (va_Nw.use rfl (tn_1_94 hN)) (fun _ h9 => h9) rfl dX5_root_9 ?_
    refine thx_callS hx hb hml hown hts ⟨hK, hN⟩ hl hS hX (rest := []) (c_X5_requireRange l hl0 Y _ x2 (nI 0) (nI (S.2.1 j1))) ok_X5_requireRange tw_2_8 dX5_root_12 rfl rfl (Nat.le_of_ble_eq_true rfl) ⟨(Nat.le_of_ble_eq_true rfl), (Nat.le_of_ble_eq_true rfl)⟩ ⟨(Nat.le_of_ble_eq_true rfl), (Nat.le_of_ble_eq_true rfl)⟩ (fun _ h => h.elim) ?_ ?_
    · rintro E9 ce9 q9 H9 locs9 ⟨rfl, hng9⟩ hsm9 hS9 hc9 hv9 hcl9
      refine thx_out hlk hX.2.2 hQ hS9 hc9 hv9 hcl9 (Nat.le_of_ble_eq_true rfl) (Nat.le_of_ble_eq_true rfl) ?_
      have q2 : ¬ th_ir x2 0 (S.2.1 j1 + 1) := fun z9 => hng9 (th_irB (by omega) (by omega) (th_irE z9 (by omega)))
      refine ⟨1, rfl, ?_, th_GWs (th_gkeep hG hsm9) hJ hv⟩
      unfold sp_root
      simp only [zj1]
      rw [th_ifT q1, th_ifF (fun z9 => q2 z9)]
      all_goals rfl
    · skip
      refine th_kpv (fun locs hr9 hS => ?_)
      have q2 : th_ir x2 0 (S.2.1 j1 + 1) := th_irE (th_irO (by omega) (by omega) hr9.1 hr9.2) (by omega)
      have uq9 := q2
      obtain ⟨j2, j2a, j2b, ux9⟩ := uq9
      subst ux9
      have zj2 : th_ix (nI j2) = j2 := th_ixN (by omega)
      refine lv_aload_n hx hb dX5_root_15 rfl (lv_at hl 0 rfl) ?_
      refine lv_iload_n hx hb dX5_root_16 rfl (lv_at hl 3 rfl) ?_
      refine th_callV hx hb hml hown hts ⟨hK, hN⟩ hl hS ((th_gV hG hj1) 0 _ rfl) rfl (rest := []) (c_X2_rootAt l Y _ (ad (16 + 3 * j1)) (ad (16 + 3 * j1 + 1)) (ad (16 + 3 * j1 + 2)) (S.2.1 j1) (Vx j1) (B j1) (th_gV hG hj1) j2 hnj1 (by omega) hBj1) ok_X2_rootAt tw_2_103 dX5_root_17 rfl rfl (Nat.le_of_ble_eq_true rfl) ⟨Nat.le_of_ble_eq_true rfl, Nat.le_of_ble_eq_true rfl⟩ ⟨Nat.le_of_ble_eq_true rfl, Nat.le_of_ble_eq_true rfl⟩ (fun _ h => h.elim) (th_kpi (fun locs hS => ?_))
      refine th_ti (th_rtE hv hj1 (by omega)) ?_
      refine thx_iret hx hb hr hlk hQ hS dX5_root_20 (Nat.le_of_ble_eq_true rfl) (Nat.le_of_ble_eq_true rfl) ?_
      refine ⟨_, rfl, ?_⟩
      unfold sp_root
      simp only [zj1, zj2]
      rw [th_ifT q1, th_ifT q2]
      exact ⟨rfl, rfl, th_GWs hG hJ hv⟩

set_option maxRecDepth 100000 in
set_option maxHeartbeats 4000000 in
theorem c_X5_rootAnew (l : Launch) (hl0 : l.stackTraces = false) (Y : th_Y) (H0 : Heap) (ad : Nat → Nat) (S : th_S) (Vx B : Nat → Nat → Int32) (dsx kvx ks : Nat → Int32) (wy : Nat → Nat) (wz : Nat → Nat → Int32) (hI : th_I Y ad S Vx B dsx kvx ks wy wz H0) (x1 x2 : Int32) : th_MX l Y yX5_rootAnew cX5_rootAnew 4 (some .int) (th_rm 10 8 400) [.ref (ad 0), .int x1, .int x2] H0 (th_gA ad S.1 H0.size) (th_po Y (ad 0) (th_gA ad S.1 H0.size) (sp_root S x1 x2)) (th_px Y ["java/lang/IndexOutOfBoundsException", "java/lang/IllegalArgumentException"] (ad 0) (th_gA ad S.1 H0.size) S (sp_root S x1 x2)) := by
  refine th_MX.intro (by decide) (Nat.le_of_ble_eq_true rfl) ?_
  intro p e s m args below meth c ls Q hQ C hKN hl hS hX
  obtain ⟨hx, hb, hr, hml, hown, hts, hlk, hnm⟩ := C
  obtain ⟨hK, hN⟩ := hKN
  have hown : s.vm.findClass RX5 = some m.cls := hown
  have hl : lv_has ls 4 [(0, .ref (ad 0)), (1, .int x1), (2, .int x2)] := hl
  obtain ⟨hG, hJ, hv⟩ := hI
  have hv1 := hv.1
  have hv12 := hv.2.2.1
  refine lv_aload_n hx hb dX5_rootAnew_0 rfl (lv_at hl 0 rfl) ?_
  refine lv_iload_n hx hb dX5_rootAnew_1 rfl (lv_at hl 1 rfl) ?_
  refine thx_callV hx hb hml hown hts ⟨hK, hN⟩ hl hS hX ((th_gO hG) 0 _ rfl) rfl (rest := []) (c_X5_viewNumbered l hl0 Y _ ad S.1 S.2.1 Vx B S.2.2.2.1 dsx wy wz kvx ks S.2.2.2.2.2.2.1 S.2.2.2.2.2.2.2 hG hv.1.2 x1) ok_X5_viewNumbered tw_1_175 dX5_rootAnew_2 rfl rfl (Nat.le_of_ble_eq_true rfl) ⟨(Nat.le_of_ble_eq_true rfl), (Nat.le_of_ble_eq_true rfl)⟩ ⟨(Nat.le_of_ble_eq_true rfl), (Nat.le_of_ble_eq_true rfl)⟩ (fun _ h => h.elim) ?_ ?_
  · rintro E9 ce9 q9 H9 locs9 ⟨rfl, hng9⟩ hsm9 hS9 hc9 hv9 hcl9
    refine thx_out hlk hX.2.2 hQ hS9 hc9 hv9 hcl9 (Nat.le_of_ble_eq_true rfl) (Nat.le_of_ble_eq_true rfl) ?_
    have q1 : ¬ th_ir x1 0 (S.1) := hng9
    refine ⟨0, rfl, ?_, th_GWs (th_gkeep hG hsm9) hJ hv⟩
    unfold sp_root
    rw [th_ifF (fun z9 => q1 z9)]
    all_goals rfl
  · skip
    refine th_kpr (fun r9 locs hr9 hS => ?_)
    obtain ⟨j1, hj1, ux9, rfl⟩ := hr9
    subst ux9
    have q1 : th_ir (nI j1) 0 (S.1) := th_irN (Nat.zero_le _) hj1
    have zj1 : th_ix (nI j1) = j1 := th_ixN (by have := hv.1; omega)
    obtain ⟨hnj1, hBj1, hfj1⟩ := hv.2.1 j1 hj1
    refine lv_astore_n (lv' := [(3, .ref (ad (16 + 3 * j1))), (0, .ref (ad 0)), (1, .int (nI j1)), (2, .int x2)]) hx hb dX5_rootAnew_5 rfl hl (by decide) rfl (fun ls hl => ?_)
    refine lv_iload_n hx hb dX5_rootAnew_6 rfl (lv_at hl 3 rfl) ?_
    refine lv_iconst (v := nI 0) hx hb dX5_rootAnew_7 (by decide) ?_
    refine lv_aload_n hx hb dX5_rootAnew_8 rfl (lv_at hl 0 rfl) ?_
    refine va_getN (D := Y.1) (ci := 2) (v := .int (nI (S.2.1 j1))) (C := RX2) (T := TX2) (N := 3) hx hb hts inX2 hown hK (th_gV hG hj1) 0 rfl rfl 0 (by decide) (va_Nw.use rfl (tn_1_94 hN)) (fun _ h9 => h9) rfl dX5_rootAnew_9 ?_
    refine thx_callS hx hb hml hown hts ⟨hK, hN⟩ hl hS hX (rest := []) (c_X5_requireRange l hl0 Y _ x2 (nI 0) (nI (S.2.1 j1))) ok_X5_requireRange tw_2_8 dX5_rootAnew_12 rfl rfl (Nat.le_of_ble_eq_true rfl) ⟨(Nat.le_of_ble_eq_true rfl), (Nat.le_of_ble_eq_true rfl)⟩ ⟨(Nat.le_of_ble_eq_true rfl), (Nat.le_of_ble_eq_true rfl)⟩ (fun _ h => h.elim) ?_ ?_
    · rintro E9 ce9 q9 H9 locs9 ⟨rfl, hng9⟩ hsm9 hS9 hc9 hv9 hcl9
      refine thx_out hlk hX.2.2 hQ hS9 hc9 hv9 hcl9 (Nat.le_of_ble_eq_true rfl) (Nat.le_of_ble_eq_true rfl) ?_
      have q2 : ¬ th_ir x2 0 (S.2.1 j1 + 1) := fun z9 => hng9 (th_irB (by omega) (by omega) (th_irE z9 (by omega)))
      refine ⟨1, rfl, ?_, th_GWs (th_gkeep hG hsm9) hJ hv⟩
      unfold sp_root
      simp only [zj1]
      rw [th_ifT q1, th_ifF (fun z9 => q2 z9)]
      all_goals rfl
    · skip
      refine th_kpv (fun locs hr9 hS => ?_)
      have q2 : th_ir x2 0 (S.2.1 j1 + 1) := th_irE (th_irO (by omega) (by omega) hr9.1 hr9.2) (by omega)
      have uq9 := q2
      obtain ⟨j2, j2a, j2b, ux9⟩ := uq9
      subst ux9
      have zj2 : th_ix (nI j2) = j2 := th_ixN (by omega)
      refine lv_aload_n hx hb dX5_rootAnew_15 rfl (lv_at hl 0 rfl) ?_
      refine lv_iload_n hx hb dX5_rootAnew_16 rfl (lv_at hl 3 rfl) ?_
      refine th_callV hx hb hml hown hts ⟨hK, hN⟩ hl hS ((th_gV hG hj1) 0 _ rfl) rfl (rest := []) (c_X2_rootFromValues l Y _ (ad (16 + 3 * j1)) (ad (16 + 3 * j1 + 1)) (ad (16 + 3 * j1 + 2)) (S.2.1 j1) (Vx j1) (B j1) (th_gV hG hj1) j2 hnj1 (by omega)) ok_X2_rootFromValues tw_2_122 dX5_rootAnew_17 rfl rfl (Nat.le_of_ble_eq_true rfl) ⟨Nat.le_of_ble_eq_true rfl, Nat.le_of_ble_eq_true rfl⟩ ⟨Nat.le_of_ble_eq_true rfl, Nat.le_of_ble_eq_true rfl⟩ (fun _ h => h.elim) (th_kpi (fun locs hS => ?_))
      refine th_ti (th_rtE hv hj1 (by omega)) ?_
      refine thx_iret hx hb hr hlk hQ hS dX5_rootAnew_20 (Nat.le_of_ble_eq_true rfl) (Nat.le_of_ble_eq_true rfl) ?_
      refine ⟨_, rfl, ?_⟩
      unfold sp_root
      simp only [zj1, zj2]
      rw [th_ifT q1, th_ifT q2]
      exact ⟨rfl, rfl, th_GWs hG hJ hv⟩

set_option maxRecDepth 100000 in
set_option maxHeartbeats 4000000 in
theorem c_X5_loadLeaf (l : Launch) (hl0 : l.stackTraces = false) (Y : th_Y) (H0 : Heap) (ad : Nat → Nat) (S : th_S) (Vx B : Nat → Nat → Int32) (dsx kvx ks : Nat → Int32) (wy : Nat → Nat) (wz : Nat → Nat → Int32) (hI : th_I Y ad S Vx B dsx kvx ks wy wz H0) (x1 x2 x3 : Int32) : th_MX l Y yX5_loadLeaf cX5_loadLeaf 5 (some .int) (th_rm 6 8 400) [.ref (ad 0), .int x1, .int x2, .int x3] H0 (th_gA ad S.1 H0.size) (th_po Y (ad 0) (th_gA ad S.1 H0.size) (sp_loadLeaf S x1 x2 x3)) (th_px Y ["java/lang/IndexOutOfBoundsException", "java/lang/IllegalArgumentException"] (ad 0) (th_gA ad S.1 H0.size) S (sp_loadLeaf S x1 x2 x3)) := by
  refine th_MX.intro (by decide) (Nat.le_of_ble_eq_true rfl) ?_
  intro p e s m args below meth c ls Q hQ C hKN hl hS hX
  obtain ⟨hx, hb, hr, hml, hown, hts, hlk, hnm⟩ := C
  obtain ⟨hK, hN⟩ := hKN
  have hown : s.vm.findClass RX5 = some m.cls := hown
  have hl : lv_has ls 5 [(0, .ref (ad 0)), (1, .int x1), (2, .int x2), (3, .int x3)] := hl
  obtain ⟨hG, hJ, hv⟩ := hI
  have hv1 := hv.1
  have hv12 := hv.2.2.1
  refine lv_aload_n hx hb dX5_loadLeaf_0 rfl (lv_at hl 0 rfl) ?_
  refine lv_iload_n hx hb dX5_loadLeaf_1 rfl (lv_at hl 1 rfl) ?_
  refine thx_callV hx hb hml hown hts ⟨hK, hN⟩ hl hS hX ((th_gO hG) 0 _ rfl) rfl (rest := []) (c_X5_viewNumbered l hl0 Y _ ad S.1 S.2.1 Vx B S.2.2.2.1 dsx wy wz kvx ks S.2.2.2.2.2.2.1 S.2.2.2.2.2.2.2 hG hv.1.2 x1) ok_X5_viewNumbered tw_1_175 dX5_loadLeaf_2 rfl rfl (Nat.le_of_ble_eq_true rfl) ⟨(Nat.le_of_ble_eq_true rfl), (Nat.le_of_ble_eq_true rfl)⟩ ⟨(Nat.le_of_ble_eq_true rfl), (Nat.le_of_ble_eq_true rfl)⟩ (fun _ h => h.elim) ?_ ?_
  · rintro E9 ce9 q9 H9 locs9 ⟨rfl, hng9⟩ hsm9 hS9 hc9 hv9 hcl9
    refine thx_out hlk hX.2.2 hQ hS9 hc9 hv9 hcl9 (Nat.le_of_ble_eq_true rfl) (Nat.le_of_ble_eq_true rfl) ?_
    have q1 : ¬ th_ir x1 0 (S.1) := hng9
    refine ⟨0, rfl, ?_, th_GWs (th_gkeep hG hsm9) hJ hv⟩
    unfold sp_loadLeaf
    simp only [th_qL, th_qG]
    rw [th_ifF (fun z9 => q1 z9)]
    all_goals rfl
  · skip
    refine th_kpr (fun r9 locs hr9 hS => ?_)
    obtain ⟨j1, hj1, ux9, rfl⟩ := hr9
    subst ux9
    have q1 : th_ir (nI j1) 0 (S.1) := th_irN (Nat.zero_le _) hj1
    have zj1 : th_ix (nI j1) = j1 := th_ixN (by have := hv.1; omega)
    obtain ⟨hnj1, hBj1, hfj1⟩ := hv.2.1 j1 hj1
    refine lv_astore (lv' := [(4, .ref (ad (16 + 3 * j1))), (0, .ref (ad 0)), (1, .int (nI j1)), (2, .int x2), (3, .int x3)]) hx hb dX5_loadLeaf_5 hl (by decide) rfl (fun ls hl => ?_)
    refine lv_iload_n hx hb dX5_loadLeaf_7 rfl (lv_at hl 4 rfl) ?_
    refine lv_iconst (v := nI 1) hx hb dX5_loadLeaf_8 (by decide) ?_
    refine lv_aload hx hb dX5_loadLeaf_9 (lv_at hl 0 rfl) ?_
    refine va_getN (D := Y.1) (ci := 2) (v := .int (nI (S.2.1 j1))) (C := RX2) (T := TX2) (N := 3) hx hb hts inX2 hown hK (th_gV hG hj1) 0 rfl rfl 0 (by decide) (va_Nw.use rfl (tn_1_94 hN)) (fun _ h9 => h9) rfl dX5_loadLeaf_11 ?_
    refine thx_callS hx hb hml hown hts ⟨hK, hN⟩ hl hS hX (rest := []) (c_X5_requireRange l hl0 Y _ x3 (nI 1) (nI (S.2.1 j1))) ok_X5_requireRange tw_2_8 dX5_loadLeaf_14 rfl rfl (Nat.le_of_ble_eq_true rfl) ⟨(Nat.le_of_ble_eq_true rfl), (Nat.le_of_ble_eq_true rfl)⟩ ⟨(Nat.le_of_ble_eq_true rfl), (Nat.le_of_ble_eq_true rfl)⟩ (fun _ h => h.elim) ?_ ?_
    · rintro E9 ce9 q9 H9 locs9 ⟨rfl, hng9⟩ hsm9 hS9 hc9 hv9 hcl9
      refine thx_out hlk hX.2.2 hQ hS9 hc9 hv9 hcl9 (Nat.le_of_ble_eq_true rfl) (Nat.le_of_ble_eq_true rfl) ?_
      have q3 : ¬ th_ir x3 1 (S.2.1 j1 + 1) := fun z9 => hng9 (th_irB (by omega) (by omega) (th_irE z9 (by omega)))
      refine ⟨1, rfl, ?_, th_GWs (th_gkeep hG hsm9) hJ hv⟩
      unfold sp_loadLeaf
      simp only [th_qL, th_qG, zj1]
      rw [th_ifT q1, th_ifF (fun z9 => q3 z9.1)]
      all_goals rfl
    · skip
      refine th_kpv (fun locs hr9 hS => ?_)
      have q3 : th_ir x3 1 (S.2.1 j1 + 1) := th_irE (th_irO (by omega) (by omega) hr9.1 hr9.2) (by omega)
      have uq9 := q3
      obtain ⟨j3, j3a, j3b, ux9⟩ := uq9
      subst ux9
      have zj3 : th_ix (nI j3) = j3 := th_ixN (by omega)
      refine lv_iload_n hx hb dX5_loadLeaf_17 rfl (lv_at hl 3 rfl) ?_
      refine lv_iconst (v := nI 0) hx hb dX5_loadLeaf_18 (by decide) ?_
      refine lv_iload_n hx hb dX5_loadLeaf_19 rfl (lv_at hl 4 rfl) ?_
      refine lv_iconst (v := nI 1) hx hb dX5_loadLeaf_20 (by decide) ?_
      refine lv_isub hx hb dX5_loadLeaf_21 ?_
      refine th_ti (pk_sub (by omega)) ?_
      refine thx_callS hx hb hml hown hts ⟨hK, hN⟩ hl hS hX (rest := []) (c_X5_requireRange l hl0 Y _ x2 (nI 0) (nI (j3 - 1))) ok_X5_requireRange tw_2_8 dX5_loadLeaf_22 rfl rfl (Nat.le_of_ble_eq_true rfl) ⟨(Nat.le_of_ble_eq_true rfl), (Nat.le_of_ble_eq_true rfl)⟩ ⟨(Nat.le_of_ble_eq_true rfl), (Nat.le_of_ble_eq_true rfl)⟩ (fun _ h => h.elim) ?_ ?_
      · rintro E9 ce9 q9 H9 locs9 ⟨rfl, hng9⟩ hsm9 hS9 hc9 hv9 hcl9
        refine thx_out hlk hX.2.2 hQ hS9 hc9 hv9 hcl9 (Nat.le_of_ble_eq_true rfl) (Nat.le_of_ble_eq_true rfl) ?_
        have q2 : ¬ th_ir x2 0 j3 := fun z9 => hng9 (th_irB (by omega) (by omega) (th_irE z9 (by omega)))
        refine ⟨1, rfl, ?_, th_GWs (th_gkeep hG hsm9) hJ hv⟩
        unfold sp_loadLeaf
        simp only [th_qL, th_qG, zj1, zj3]
        rw [th_ifT q1, th_ifF (fun z9 => q2 z9.2)]
        all_goals rfl
      · skip
        refine th_kpv (fun locs hr9 hS => ?_)
        have q2 : th_ir x2 0 j3 := th_irE (th_irO (by omega) (by omega) hr9.1 hr9.2) (by omega)
        have uq9 := q2
        obtain ⟨j2, j2a, j2b, ux9⟩ := uq9
        subst ux9
        have zj2 : th_ix (nI j2) = j2 := th_ixN (by omega)
        refine lv_aload_n hx hb dX5_loadLeaf_25 rfl (lv_at hl 1 rfl) ?_
        refine va_get (D := Y.1) (ci := 5) (v := .ref (ad 3)) (C := RX5) (T := TX5) (N := 5) hx hb hts inX5 hown hK (th_gO hG) 0 rfl rfl 2 (by decide) (hts _ tw_1_135) (fun _ h9 => h9) rfl dX5_loadLeaf_26 ?_
        refine lv_aload hx hb dX5_loadLeaf_29 (lv_at hl 0 rfl) ?_
        refine lv_iload_n hx hb dX5_loadLeaf_31 rfl (lv_at hl 3 rfl) ?_
        refine lv_iload_n hx hb dX5_loadLeaf_32 rfl (lv_at hl 4 rfl) ?_
        refine th_callV hx hb hml hown hts ⟨hK, hN⟩ hl hS ((th_gDk hG) 0 _ rfl) rfl (rest := []) (c_X0_takeLeafProof l Y _ (ad 3) (ad 4) (ad 5) (S.2.2.2.1) dsx (ad 6) (ad 7) (ad 8) (wy 0) (wy 1) (wy 2) (wy 3) (wz 0) (wz 1) (wz 2) (ad (16 + 3 * j1)) (ad (16 + 3 * j1 + 1)) (ad (16 + 3 * j1 + 2)) (S.2.1 j1) (Vx j1) (B j1) (th_gDV hG hj1) (th_gD hJ [3, 4, 5, 6, 7, 8, 16 + 3 * j1, 16 + 3 * j1 + 1, 16 + 3 * j1 + 2] (fun k9 hk9 => by simp only [List.mem_cons, List.not_mem_nil, or_false] at hk9; omega) (th_ndDV _) rfl) hnj1 hBj1 j2 j3 (by omega) (by omega)) ok_X0_takeLeafProof tw_2_139 dX5_loadLeaf_33 rfl rfl (Nat.le_of_ble_eq_true rfl) ⟨Nat.le_of_ble_eq_true rfl, Nat.le_of_ble_eq_true rfl⟩ ⟨Nat.le_of_ble_eq_true rfl, Nat.le_of_ble_eq_true rfl⟩ (th_gAm (ad := ad) [3, 4, 5, 6, 7, 8, 16 + 3 * j1, 16 + 3 * j1 + 1, 16 + 3 * j1 + 2] (fun k9 hk9 => by simp only [List.mem_cons, List.not_mem_nil, or_false] at hk9; omega)) (th_kv (fun H locs hp hsm hS => ?_))
        obtain ⟨ds9, ⟨r1, F1, N1, T1, fr1, le1, fi1, hPc⟩, hds⟩ := hp
        have hG := th_guDV hG hJ hj1 hsm hPc
        have hP : va_P Y.1 vwCl [(ad 3, .inr (0, [.int (nI (th_dL (0, j3, j2))), .ref (ad 4), .ref (ad 5)])), (ad 4, .inl (Y.2 0, 12, .inl ds9)), (ad 5, .inr (4, [.int (nI r1), .ref (ad 6), .ref (ad 7), .ref (ad 8), .int (nI F1), .int (nI N1), .int (nI T1)])), (ad 6, .inl (Y.2 0, 12, .inl fr1)), (ad 7, .inl (Y.2 0, 12, .inl le1)), (ad 8, .inl (Y.2 1, 12, .inl fi1)), (ad (16 + 3 * j1), .inr (2, [.int (nI (S.2.1 j1)), .ref (ad (16 + 3 * j1 + 1)), .ref (ad (16 + 3 * j1 + 2))])), (ad (16 + 3 * j1 + 1), .inl (Y.2 0, 100, .inl (Vx j1))), (ad (16 + 3 * j1 + 2), .inl (Y.2 0, 256, .inl (B j1)))] _ := hPc
        refine lv_aload_n hx hb dX5_loadLeaf_36 rfl (lv_at hl 1 rfl) ?_
        refine va_get (D := Y.1) (ci := 5) (v := .ref (ad 3)) (C := RX5) (T := TX5) (N := 5) hx hb hts inX5 hown hK (th_gO hG) 0 rfl rfl 2 (by decide) (hts _ tw_1_135) (fun _ h9 => h9) rfl dX5_loadLeaf_37 ?_
        refine va_getN (D := Y.1) (ci := 0) (v := .int (nI (th_dL (0, j3, j2)))) (C := RX0) (T := TX0) (N := 3) hx hb hts inX0 hown hK hP 0 rfl rfl 0 (by decide) (va_Nw.use rfl (tn_1_64 hN)) (fun _ h9 => h9) rfl dX5_loadLeaf_40 ?_
        refine thx_iret hx hb hr hlk hQ hS dX5_loadLeaf_43 (Nat.le_of_ble_eq_true rfl) (Nat.le_of_ble_eq_true rfl) ?_
        have hrw9 := th_rowsL (n := j3) (q := (0, j3, j2)) ⟨(by omega : j2 < j3), (by omega : 0 + j3 ≤ j3), th_al_0 (by omega : j3 ≤ 128)⟩ (by show j3 ≤ 128; omega)
        refine ⟨_, rfl, ?_⟩
        unfold sp_loadLeaf
        simp only [th_qL, th_qG, zj1, zj3, zj2]
        rw [th_ifT q1, th_ifT ⟨q3, q2⟩]
        exact ⟨rfl, rfl, th_GWD hG hJ hv (by have := hrw9.1; omega) (fun k9 hk9 => (hds k9 hk9).trans (th_pSE hk9 hrw9.2 (fun i9 hi9 => (hfj1 i9 (by omega)).1)))⟩

set_option maxRecDepth 100000 in
set_option maxHeartbeats 4000000 in
theorem c_X5_loadGrowth (l : Launch) (hl0 : l.stackTraces = false) (Y : th_Y) (H0 : Heap) (ad : Nat → Nat) (S : th_S) (Vx B : Nat → Nat → Int32) (dsx kvx ks : Nat → Int32) (wy : Nat → Nat) (wz : Nat → Nat → Int32) (hI : th_I Y ad S Vx B dsx kvx ks wy wz H0) (x1 x2 x3 : Int32) : th_MX l Y yX5_loadGrowth cX5_loadGrowth 5 (some .int) (th_rm 6 8 400) [.ref (ad 0), .int x1, .int x2, .int x3] H0 (th_gA ad S.1 H0.size) (th_po Y (ad 0) (th_gA ad S.1 H0.size) (sp_loadGrowth S x1 x2 x3)) (th_px Y ["java/lang/IndexOutOfBoundsException", "java/lang/IllegalArgumentException"] (ad 0) (th_gA ad S.1 H0.size) S (sp_loadGrowth S x1 x2 x3)) := by
  refine th_MX.intro (by decide) (Nat.le_of_ble_eq_true rfl) ?_
  intro p e s m args below meth c ls Q hQ C hKN hl hS hX
  obtain ⟨hx, hb, hr, hml, hown, hts, hlk, hnm⟩ := C
  obtain ⟨hK, hN⟩ := hKN
  have hown : s.vm.findClass RX5 = some m.cls := hown
  have hl : lv_has ls 5 [(0, .ref (ad 0)), (1, .int x1), (2, .int x2), (3, .int x3)] := hl
  obtain ⟨hG, hJ, hv⟩ := hI
  have hv1 := hv.1
  have hv12 := hv.2.2.1
  refine lv_aload_n hx hb dX5_loadGrowth_0 rfl (lv_at hl 0 rfl) ?_
  refine lv_iload_n hx hb dX5_loadGrowth_1 rfl (lv_at hl 1 rfl) ?_
  refine thx_callV hx hb hml hown hts ⟨hK, hN⟩ hl hS hX ((th_gO hG) 0 _ rfl) rfl (rest := []) (c_X5_viewNumbered l hl0 Y _ ad S.1 S.2.1 Vx B S.2.2.2.1 dsx wy wz kvx ks S.2.2.2.2.2.2.1 S.2.2.2.2.2.2.2 hG hv.1.2 x1) ok_X5_viewNumbered tw_1_175 dX5_loadGrowth_2 rfl rfl (Nat.le_of_ble_eq_true rfl) ⟨(Nat.le_of_ble_eq_true rfl), (Nat.le_of_ble_eq_true rfl)⟩ ⟨(Nat.le_of_ble_eq_true rfl), (Nat.le_of_ble_eq_true rfl)⟩ (fun _ h => h.elim) ?_ ?_
  · rintro E9 ce9 q9 H9 locs9 ⟨rfl, hng9⟩ hsm9 hS9 hc9 hv9 hcl9
    refine thx_out hlk hX.2.2 hQ hS9 hc9 hv9 hcl9 (Nat.le_of_ble_eq_true rfl) (Nat.le_of_ble_eq_true rfl) ?_
    have q1 : ¬ th_ir x1 0 (S.1) := hng9
    refine ⟨0, rfl, ?_, th_GWs (th_gkeep hG hsm9) hJ hv⟩
    unfold sp_loadGrowth
    simp only [th_qL, th_qG]
    rw [th_ifF (fun z9 => q1 z9)]
    all_goals rfl
  · skip
    refine th_kpr (fun r9 locs hr9 hS => ?_)
    obtain ⟨j1, hj1, ux9, rfl⟩ := hr9
    subst ux9
    have q1 : th_ir (nI j1) 0 (S.1) := th_irN (Nat.zero_le _) hj1
    have zj1 : th_ix (nI j1) = j1 := th_ixN (by have := hv.1; omega)
    obtain ⟨hnj1, hBj1, hfj1⟩ := hv.2.1 j1 hj1
    refine lv_astore (lv' := [(4, .ref (ad (16 + 3 * j1))), (0, .ref (ad 0)), (1, .int (nI j1)), (2, .int x2), (3, .int x3)]) hx hb dX5_loadGrowth_5 hl (by decide) rfl (fun ls hl => ?_)
    refine lv_iload_n hx hb dX5_loadGrowth_7 rfl (lv_at hl 4 rfl) ?_
    refine lv_iconst (v := nI 1) hx hb dX5_loadGrowth_8 (by decide) ?_
    refine lv_aload hx hb dX5_loadGrowth_9 (lv_at hl 0 rfl) ?_
    refine va_getN (D := Y.1) (ci := 2) (v := .int (nI (S.2.1 j1))) (C := RX2) (T := TX2) (N := 3) hx hb hts inX2 hown hK (th_gV hG hj1) 0 rfl rfl 0 (by decide) (va_Nw.use rfl (tn_1_94 hN)) (fun _ h9 => h9) rfl dX5_loadGrowth_11 ?_
    refine thx_callS hx hb hml hown hts ⟨hK, hN⟩ hl hS hX (rest := []) (c_X5_requireRange l hl0 Y _ x3 (nI 1) (nI (S.2.1 j1))) ok_X5_requireRange tw_2_8 dX5_loadGrowth_14 rfl rfl (Nat.le_of_ble_eq_true rfl) ⟨(Nat.le_of_ble_eq_true rfl), (Nat.le_of_ble_eq_true rfl)⟩ ⟨(Nat.le_of_ble_eq_true rfl), (Nat.le_of_ble_eq_true rfl)⟩ (fun _ h => h.elim) ?_ ?_
    · rintro E9 ce9 q9 H9 locs9 ⟨rfl, hng9⟩ hsm9 hS9 hc9 hv9 hcl9
      refine thx_out hlk hX.2.2 hQ hS9 hc9 hv9 hcl9 (Nat.le_of_ble_eq_true rfl) (Nat.le_of_ble_eq_true rfl) ?_
      have q3 : ¬ th_ir x3 1 (S.2.1 j1 + 1) := fun z9 => hng9 (th_irB (by omega) (by omega) (th_irE z9 (by omega)))
      refine ⟨1, rfl, ?_, th_GWs (th_gkeep hG hsm9) hJ hv⟩
      unfold sp_loadGrowth
      simp only [th_qL, th_qG, zj1]
      rw [th_ifT q1, th_ifF (fun z9 => q3 z9.1)]
      all_goals rfl
    · skip
      refine th_kpv (fun locs hr9 hS => ?_)
      have q3 : th_ir x3 1 (S.2.1 j1 + 1) := th_irE (th_irO (by omega) (by omega) hr9.1 hr9.2) (by omega)
      have uq9 := q3
      obtain ⟨j3, j3a, j3b, ux9⟩ := uq9
      subst ux9
      have zj3 : th_ix (nI j3) = j3 := th_ixN (by omega)
      refine lv_iload_n hx hb dX5_loadGrowth_17 rfl (lv_at hl 3 rfl) ?_
      refine lv_iconst (v := nI 1) hx hb dX5_loadGrowth_18 (by decide) ?_
      refine lv_iload_n hx hb dX5_loadGrowth_19 rfl (lv_at hl 4 rfl) ?_
      refine thx_callS hx hb hml hown hts ⟨hK, hN⟩ hl hS hX (rest := []) (c_X5_requireRange l hl0 Y _ x2 (nI 1) (nI j3)) ok_X5_requireRange tw_2_8 dX5_loadGrowth_20 rfl rfl (Nat.le_of_ble_eq_true rfl) ⟨(Nat.le_of_ble_eq_true rfl), (Nat.le_of_ble_eq_true rfl)⟩ ⟨(Nat.le_of_ble_eq_true rfl), (Nat.le_of_ble_eq_true rfl)⟩ (fun _ h => h.elim) ?_ ?_
      · rintro E9 ce9 q9 H9 locs9 ⟨rfl, hng9⟩ hsm9 hS9 hc9 hv9 hcl9
        refine thx_out hlk hX.2.2 hQ hS9 hc9 hv9 hcl9 (Nat.le_of_ble_eq_true rfl) (Nat.le_of_ble_eq_true rfl) ?_
        have q2 : ¬ th_ir x2 1 (j3 + 1) := fun z9 => hng9 (th_irB (by omega) (by omega) (th_irE z9 (by omega)))
        refine ⟨1, rfl, ?_, th_GWs (th_gkeep hG hsm9) hJ hv⟩
        unfold sp_loadGrowth
        simp only [th_qL, th_qG, zj1, zj3]
        rw [th_ifT q1, th_ifF (fun z9 => q2 z9.2)]
        all_goals rfl
      · skip
        refine th_kpv (fun locs hr9 hS => ?_)
        have q2 : th_ir x2 1 (j3 + 1) := th_irE (th_irO (by omega) (by omega) hr9.1 hr9.2) (by omega)
        have uq9 := q2
        obtain ⟨j2, j2a, j2b, ux9⟩ := uq9
        subst ux9
        have zj2 : th_ix (nI j2) = j2 := th_ixN (by omega)
        refine lv_aload_n hx hb dX5_loadGrowth_23 rfl (lv_at hl 1 rfl) ?_
        refine va_get (D := Y.1) (ci := 5) (v := .ref (ad 3)) (C := RX5) (T := TX5) (N := 5) hx hb hts inX5 hown hK (th_gO hG) 0 rfl rfl 2 (by decide) (hts _ tw_1_135) (fun _ h9 => h9) rfl dX5_loadGrowth_24 ?_
        refine lv_aload hx hb dX5_loadGrowth_27 (lv_at hl 0 rfl) ?_
        refine lv_iload_n hx hb dX5_loadGrowth_29 rfl (lv_at hl 3 rfl) ?_
        refine lv_iload_n hx hb dX5_loadGrowth_30 rfl (lv_at hl 4 rfl) ?_
        refine th_callV hx hb hml hown hts ⟨hK, hN⟩ hl hS ((th_gDk hG) 0 _ rfl) rfl (rest := []) (c_X0_takeGrowthProof l Y _ (ad 3) (ad 4) (ad 5) (S.2.2.2.1) dsx (ad 6) (ad 7) (ad 8) (wy 0) (wy 1) (wy 2) (wy 3) (wz 0) (wz 1) (wz 2) (ad (16 + 3 * j1)) (ad (16 + 3 * j1 + 1)) (ad (16 + 3 * j1 + 2)) (S.2.1 j1) (Vx j1) (B j1) (th_gDV hG hj1) (th_gD hJ [3, 4, 5, 6, 7, 8, 16 + 3 * j1, 16 + 3 * j1 + 1, 16 + 3 * j1 + 2] (fun k9 hk9 => by simp only [List.mem_cons, List.not_mem_nil, or_false] at hk9; omega) (th_ndDV _) rfl) hnj1 hBj1 j2 j3 (by omega) (by omega) (by omega)) ok_X0_takeGrowthProof tw_2_176 dX5_loadGrowth_31 rfl rfl (Nat.le_of_ble_eq_true rfl) ⟨Nat.le_of_ble_eq_true rfl, Nat.le_of_ble_eq_true rfl⟩ ⟨Nat.le_of_ble_eq_true rfl, Nat.le_of_ble_eq_true rfl⟩ (th_gAm (ad := ad) [3, 4, 5, 6, 7, 8, 16 + 3 * j1, 16 + 3 * j1 + 1, 16 + 3 * j1 + 2] (fun k9 hk9 => by simp only [List.mem_cons, List.not_mem_nil, or_false] at hk9; omega)) (th_kv (fun H locs hp hsm hS => ?_))
        obtain ⟨ds9, ⟨r1, F1, N1, T1, fr1, le1, fi1, hPc⟩, hds⟩ := hp
        have hG := th_guDV hG hJ hj1 hsm hPc
        have hP : va_P Y.1 vwCl [(ad 3, .inr (0, [.int (nI (th_gR (0, j3, j2 - 1))), .ref (ad 4), .ref (ad 5)])), (ad 4, .inl (Y.2 0, 12, .inl ds9)), (ad 5, .inr (4, [.int (nI r1), .ref (ad 6), .ref (ad 7), .ref (ad 8), .int (nI F1), .int (nI N1), .int (nI T1)])), (ad 6, .inl (Y.2 0, 12, .inl fr1)), (ad 7, .inl (Y.2 0, 12, .inl le1)), (ad 8, .inl (Y.2 1, 12, .inl fi1)), (ad (16 + 3 * j1), .inr (2, [.int (nI (S.2.1 j1)), .ref (ad (16 + 3 * j1 + 1)), .ref (ad (16 + 3 * j1 + 2))])), (ad (16 + 3 * j1 + 1), .inl (Y.2 0, 100, .inl (Vx j1))), (ad (16 + 3 * j1 + 2), .inl (Y.2 0, 256, .inl (B j1)))] _ := hPc
        refine lv_aload_n hx hb dX5_loadGrowth_34 rfl (lv_at hl 1 rfl) ?_
        refine va_get (D := Y.1) (ci := 5) (v := .ref (ad 3)) (C := RX5) (T := TX5) (N := 5) hx hb hts inX5 hown hK (th_gO hG) 0 rfl rfl 2 (by decide) (hts _ tw_1_135) (fun _ h9 => h9) rfl dX5_loadGrowth_35 ?_
        refine va_getN (D := Y.1) (ci := 0) (v := .int (nI (th_gR (0, j3, j2 - 1)))) (C := RX0) (T := TX0) (N := 3) hx hb hts inX0 hown hK hP 0 rfl rfl 0 (by decide) (va_Nw.use rfl (tn_1_64 hN)) (fun _ h9 => h9) rfl dX5_loadGrowth_38 ?_
        refine thx_iret hx hb hr hlk hQ hS dX5_loadGrowth_41 (Nat.le_of_ble_eq_true rfl) (Nat.le_of_ble_eq_true rfl) ?_
        have hrw9 := th_rowsG (n := j3) (q := (0, j3, j2 - 1)) ⟨(by omega : j2 - 1 < j3), (by omega : 0 + j3 ≤ j3), th_al_0 (by omega : j3 ≤ 128)⟩ (by show j3 ≤ 128; omega)
        refine ⟨_, rfl, ?_⟩
        unfold sp_loadGrowth
        simp only [th_qL, th_qG, zj1, zj3, zj2]
        rw [th_ifT q1, th_ifT ⟨q3, q2⟩]
        exact ⟨rfl, rfl, th_GWD hG hJ hv (by have := hrw9.1; omega) (fun k9 hk9 => (hds k9 hk9).trans (th_pSE hk9 hrw9.2.2 (fun i9 hi9 => (hfj1 i9 (by omega)).1)))⟩

set_option maxRecDepth 100000 in
set_option maxHeartbeats 4000000 in
theorem c_X5_loadKey (l : Launch) (hl0 : l.stackTraces = false) (Y : th_Y) (H0 : Heap) (ad : Nat → Nat) (S : th_S) (Vx B : Nat → Nat → Int32) (dsx kvx ks : Nat → Int32) (wy : Nat → Nat) (wz : Nat → Nat → Int32) (hI : th_I Y ad S Vx B dsx kvx ks wy wz H0) (x1 : Int32) : th_MX l Y yX5_loadKey cX5_loadKey 2 (some .int) (th_rm 6 8 400) [.ref (ad 0), .int x1] H0 (th_gA ad S.1 H0.size) (th_po Y (ad 0) (th_gA ad S.1 H0.size) (sp_loadKey S x1)) (th_px Y ["java/lang/IllegalArgumentException"] (ad 0) (th_gA ad S.1 H0.size) S (sp_loadKey S x1)) := by
  refine th_MX.intro (by decide) (Nat.le_of_ble_eq_true rfl) ?_
  intro p e s m args below meth c ls Q hQ C hKN hl hS hX
  obtain ⟨hx, hb, hr, hml, hown, hts, hlk, hnm⟩ := C
  obtain ⟨hK, hN⟩ := hKN
  have hown : s.vm.findClass RX5 = some m.cls := hown
  have hl : lv_has ls 2 [(0, .ref (ad 0)), (1, .int x1)] := hl
  obtain ⟨hG, hJ, hv⟩ := hI
  have hv1 := hv.1
  have hv12 := hv.2.2.1
  refine lv_iload_n hx hb dX5_loadKey_0 rfl (lv_at hl 1 rfl) ?_
  refine lv_iconst (v := nI 0) hx hb dX5_loadKey_1 (by decide) ?_
  refine lv_bipush (v := nI 63) hx hb dX5_loadKey_2 (by decide) ?_
  refine thx_callS hx hb hml hown hts ⟨hK, hN⟩ hl hS hX (rest := []) (c_X5_requireRange l hl0 Y _ x1 (nI 0) (nI 63)) ok_X5_requireRange tw_2_8 dX5_loadKey_4 rfl rfl (Nat.le_of_ble_eq_true rfl) ⟨(Nat.le_of_ble_eq_true rfl), (Nat.le_of_ble_eq_true rfl)⟩ ⟨(Nat.le_of_ble_eq_true rfl), (Nat.le_of_ble_eq_true rfl)⟩ (fun _ h => h.elim) ?_ ?_
  · rintro E9 ce9 q9 H9 locs9 ⟨rfl, hng9⟩ hsm9 hS9 hc9 hv9 hcl9
    refine thx_out hlk hX.2.2 hQ hS9 hc9 hv9 hcl9 (Nat.le_of_ble_eq_true rfl) (Nat.le_of_ble_eq_true rfl) ?_
    have q1 : ¬ th_ir x1 0 64 := fun z9 => hng9 (th_irB (by omega) (by omega) (th_irE z9 (by omega)))
    refine ⟨0, rfl, ?_, th_GWs (th_gkeep hG hsm9) hJ hv⟩
    unfold sp_loadKey
    rw [th_ifF (fun z9 => q1 z9)]
    all_goals rfl
  · skip
    refine th_kpv (fun locs hr9 hS => ?_)
    have q1 : th_ir x1 0 64 := th_irE (th_irO (by omega) (by omega) hr9.1 hr9.2) (by omega)
    have uq9 := q1
    obtain ⟨j1, j1a, j1b, ux9⟩ := uq9
    subst ux9
    have zj1 : th_ix (nI j1) = j1 := th_ixN (by omega)
    refine lv_aload_n hx hb dX5_loadKey_7 rfl (lv_at hl 0 rfl) ?_
    refine va_get (D := Y.1) (ci := 5) (v := .ref (ad 3)) (C := RX5) (T := TX5) (N := 5) hx hb hts inX5 hown hK (th_gO hG) 0 rfl rfl 2 (by decide) (hts _ tw_1_135) (fun _ h9 => h9) rfl dX5_loadKey_8 ?_
    refine lv_aload_n hx hb dX5_loadKey_11 rfl (lv_at hl 0 rfl) ?_
    refine va_get (D := Y.1) (ci := 5) (v := .ref (ad 9)) (C := RX5) (T := TX5) (N := 5) hx hb hts inX5 hown hK (th_gO hG) 0 rfl rfl 3 (by decide) (hts _ tw_1_136) (fun _ h9 => h9) rfl dX5_loadKey_12 ?_
    refine lv_iload_n hx hb dX5_loadKey_15 rfl (lv_at hl 1 rfl) ?_
    refine th_callV hx hb hml hown hts ⟨hK, hN⟩ hl hS ((th_gDk hG) 0 _ rfl) rfl (rest := []) (c_X0_takeKeyProof l Y _ (ad 3) (ad 4) (ad 5) (S.2.2.2.1) dsx (ad 9) (ad 10) (ad 11) kvx ks (th_gEM hG) (th_gD hJ [3, 4, 9, 10, 11] (fun k9 hk9 => by simp only [List.mem_cons, List.not_mem_nil, or_false] at hk9; omega) th_ndEM rfl) hv.2.2.2.2.1 j1 (by omega)) ok_X0_takeKeyProof tw_2_195 dX5_loadKey_16 rfl rfl (Nat.le_of_ble_eq_true rfl) ⟨Nat.le_of_ble_eq_true rfl, Nat.le_of_ble_eq_true rfl⟩ ⟨Nat.le_of_ble_eq_true rfl, Nat.le_of_ble_eq_true rfl⟩ (th_gAm (ad := ad) [3, 4, 9, 10, 11] (fun k9 hk9 => by simp only [List.mem_cons, List.not_mem_nil, or_false] at hk9; omega)) (th_kv (fun H locs hp hsm hS => ?_))
    obtain ⟨ds9, hPc, hds⟩ := hp
    have hG := th_guEM hG hJ hsm hPc
    have hP : va_P Y.1 vwCl [(ad 3, .inr (0, [.int (nI 6), .ref (ad 4), .ref (ad 5)])), (ad 4, .inl (Y.2 0, 12, .inl ds9)), (ad 9, .inr (1, [.ref (ad 10), .ref (ad 11)])), (ad 10, .inl (Y.2 0, 64, .inl kvx)), (ad 11, .inl (Y.2 0, 128, .inl ks))] _ := hPc
    refine lv_aload_n hx hb dX5_loadKey_19 rfl (lv_at hl 0 rfl) ?_
    refine va_get (D := Y.1) (ci := 5) (v := .ref (ad 3)) (C := RX5) (T := TX5) (N := 5) hx hb hts inX5 hown hK (th_gO hG) 0 rfl rfl 2 (by decide) (hts _ tw_1_135) (fun _ h9 => h9) rfl dX5_loadKey_20 ?_
    refine va_getN (D := Y.1) (ci := 0) (v := .int (nI 6)) (C := RX0) (T := TX0) (N := 3) hx hb hts inX0 hown hK hP 0 rfl rfl 0 (by decide) (va_Nw.use rfl (tn_1_64 hN)) (fun _ h9 => h9) rfl dX5_loadKey_23 ?_
    refine thx_iret hx hb hr hlk hQ hS dX5_loadKey_26 (Nat.le_of_ble_eq_true rfl) (Nat.le_of_ble_eq_true rfl) ?_
    refine ⟨_, rfl, ?_⟩
    unfold sp_loadKey
    simp only [zj1]
    rw [th_ifT q1]
    exact ⟨rfl, rfl, th_GWD hG hJ hv (by decide) (fun k9 hk9 => (hds k9 hk9).trans (th_lvE hv.2.2.2.2.2.1 k9 _ (by omega) (th_xorK j1 (by omega) k9 hk9).2))⟩

set_option maxRecDepth 100000 in
set_option maxHeartbeats 4000000 in
theorem c_X5_change (l : Launch) (hl0 : l.stackTraces = false) (Y : th_Y) (H0 : Heap) (ad : Nat → Nat) (S : th_S) (Vx B : Nat → Nat → Int32) (dsx kvx ks : Nat → Int32) (wy : Nat → Nat) (wz : Nat → Nat → Int32) (hI : th_I Y ad S Vx B dsx kvx ks wy wz H0) (x1 x2 : Int32) : th_MX l Y yX5_change cX5_change 3 (some .int) (th_rm 6 8 400) [.ref (ad 0), .int x1, .int x2] H0 (th_gA ad S.1 H0.size) (th_po Y (ad 0) (th_gA ad S.1 H0.size) (sp_change S x1 x2)) (th_px Y ["java/lang/IndexOutOfBoundsException", "java/lang/IllegalArgumentException", "java/lang/IllegalStateException"] (ad 0) (th_gA ad S.1 H0.size) S (sp_change S x1 x2)) := by
  refine th_MX.intro (by decide) (Nat.le_of_ble_eq_true rfl) ?_
  intro p e s m args below meth c ls Q hQ C hKN hl hS hX
  obtain ⟨hx, hb, hr, hml, hown, hts, hlk, hnm⟩ := C
  obtain ⟨hK, hN⟩ := hKN
  have hown : s.vm.findClass RX5 = some m.cls := hown
  have hl : lv_has ls 3 [(0, .ref (ad 0)), (1, .int x1), (2, .int x2)] := hl
  obtain ⟨hG, hJ, hv⟩ := hI
  have hv1 := hv.1
  have hv12 := hv.2.2.1
  refine lv_iload_n hx hb dX5_change_0 rfl (lv_at hl 1 rfl) ?_
  refine lv_if_lt (tgt := 15) hx hb dX5_change_1 (by decide) (fun c_1 => ?_) (fun c_1 => ?_)
  · skip
    have q1 : ¬ th_ir x1 0 (S.2.2.2.1 + 1) := th_neg c_1 (by omega)
    refine thx_throw (cls := "java/lang/IndexOutOfBoundsException") (text := "no such place in the proof, nor right behind it") (ik := 72) (is := 97) (ic := 76) hx hb hl0 hml hown hts hl hlk hX hQ hS (by decide) tw_1_179 tw_1_11 ts_97 th_at0 dX5_change_15 dX5_change_18 dX5_change_19 dX5_change_21 dX5_change_24 (Nat.le_of_ble_eq_true rfl) (Nat.le_of_ble_eq_true rfl) (Nat.le_of_ble_eq_true rfl) (Nat.le_of_ble_eq_true rfl) (Nat.le_of_ble_eq_true rfl) (Nat.le_of_ble_eq_true rfl) (fun H9 hsm9 => ?_)
    refine ⟨0, rfl, ?_, th_GWs (th_gkeep hG hsm9) hJ hv⟩
    unfold sp_change
    rw [th_ifF (fun z9 => q1 z9)]
    all_goals rfl
  obtain ⟨j1, hj1, hx1⟩ := nI_of c_1
  subst hx1
  have zj1 : th_ix (nI j1) = j1 := th_ixN hj1
  refine lv_iload_n hx hb dX5_change_4 rfl (lv_at hl 1 rfl) ?_
  refine lv_aload_n hx hb dX5_change_5 rfl (lv_at hl 0 rfl) ?_
  refine va_get (D := Y.1) (ci := 5) (v := .ref (ad 3)) (C := RX5) (T := TX5) (N := 5) hx hb hts inX5 hown hK (th_gO hG) 0 rfl rfl 2 (by decide) (hts _ tw_1_135) (fun _ h9 => h9) rfl dX5_change_6 ?_
  refine va_getN (D := Y.1) (ci := 0) (v := .int (nI S.2.2.2.1)) (C := RX0) (T := TX0) (N := 3) hx hb hts inX0 hown hK (th_gDk hG) 0 rfl rfl 0 (by decide) (va_Nw.use rfl (tn_1_64 hN)) (fun _ h9 => h9) rfl dX5_change_9 ?_
  refine th_ile (tgt := 25) hx hb dX5_change_12 (by decide) (by omega) (by omega) (fun c_2 => ?_) (fun c_2 => ?_)
  · skip
    have q1 : th_ir (nI j1) 0 (S.2.2.2.1 + 1) := th_irN (Nat.zero_le _) (by omega)
    refine lv_iload_n hx hb dX5_change_25 rfl (lv_at hl 2 rfl) ?_
    refine lv_iconst (v := nI 0) hx hb dX5_change_26 (by decide) ?_
    refine lv_ldc hx hb hown (hts _ tw_2_211) dX5_change_27 ?_
    refine th_ti (show (1000002 : Int32) = nI 1000002 from rfl) ?_
    refine thx_callS hx hb hml hown hts ⟨hK, hN⟩ hl hS hX (rest := []) (c_X5_requireRange l hl0 Y _ x2 (nI 0) (nI 1000002)) ok_X5_requireRange tw_2_8 dX5_change_29 rfl rfl (Nat.le_of_ble_eq_true rfl) ⟨(Nat.le_of_ble_eq_true rfl), (Nat.le_of_ble_eq_true rfl)⟩ ⟨(Nat.le_of_ble_eq_true rfl), (Nat.le_of_ble_eq_true rfl)⟩ (fun _ h => h.elim) ?_ ?_
    · rintro E9 ce9 q9 H9 locs9 ⟨rfl, hng9⟩ hsm9 hS9 hc9 hv9 hcl9
      refine thx_out hlk hX.2.2 hQ hS9 hc9 hv9 hcl9 (Nat.le_of_ble_eq_true rfl) (Nat.le_of_ble_eq_true rfl) ?_
      have q2 : ¬ th_ir x2 0 1000003 := fun z9 => hng9 (th_irB (by omega) (by omega) (th_irE z9 (by omega)))
      refine ⟨1, rfl, ?_, th_GWs (th_gkeep hG hsm9) hJ hv⟩
      unfold sp_change
      simp only [zj1]
      rw [th_ifT q1, th_ifF (fun z9 => q2 z9)]
      all_goals rfl
    · skip
      refine th_kpv (fun locs hr9 hS => ?_)
      have q2 : th_ir x2 0 1000003 := th_irE (th_irO (by omega) (by omega) hr9.1 hr9.2) (by omega)
      have uq9 := q2
      obtain ⟨j2, j2a, j2b, ux9⟩ := uq9
      subst ux9
      have zj2 : th_ix (nI j2) = j2 := th_ixN (by omega)
      refine lv_iload_n hx hb dX5_change_32 rfl (lv_at hl 1 rfl) ?_
      refine lv_bipush (v := nI 12) hx hb dX5_change_33 (by decide) ?_
      refine th_ilt (tgt := 48) hx hb dX5_change_35 (by decide) (by omega) (by omega) (fun c_3 => ?_) (fun c_3 => ?_)
      · skip
        refine lv_aload_n hx hb dX5_change_48 rfl (lv_at hl 0 rfl) ?_
        refine va_get (D := Y.1) (ci := 5) (v := .ref (ad 3)) (C := RX5) (T := TX5) (N := 5) hx hb hts inX5 hown hK (th_gO hG) 0 rfl rfl 2 (by decide) (hts _ tw_1_135) (fun _ h9 => h9) rfl dX5_change_49 ?_
        refine lv_iload_n hx hb dX5_change_52 rfl (lv_at hl 1 rfl) ?_
        refine lv_iload_n hx hb dX5_change_53 rfl (lv_at hl 2 rfl) ?_
        refine th_callV hx hb hml hown hts ⟨hK, hN⟩ hl hS ((th_gDk hG) 0 _ rfl) rfl (rest := []) (c_X0_write l Y _ (ad 3) (ad 4) (ad 5) (S.2.2.2.1) dsx (th_gE hG) (th_gD hJ [3, 4] (fun k9 hk9 => by simp only [List.mem_cons, List.not_mem_nil, or_false] at hk9; omega) th_ndE rfl) j1 (nI j2) (by omega) (by omega) hv.2.2.1) ok_X0_write tw_2_213 dX5_change_54 rfl rfl (Nat.le_of_ble_eq_true rfl) ⟨Nat.le_of_ble_eq_true rfl, Nat.le_of_ble_eq_true rfl⟩ ⟨Nat.le_of_ble_eq_true rfl, Nat.le_of_ble_eq_true rfl⟩ (th_gAm (ad := ad) [3, 4] (fun k9 hk9 => by simp only [List.mem_cons, List.not_mem_nil, or_false] at hk9; omega)) (th_kv (fun H locs hp hsm hS => ?_))
        have hPc := hp
        have hG := th_guE hG hJ hsm hPc
        have hP : va_P Y.1 vwCl [(ad 3, .inr (0, [.int (nI (if j1 = S.2.2.2.1 then S.2.2.2.1 + 1 else S.2.2.2.1)), .ref (ad 4), .ref (ad 5)])), (ad 4, .inl (Y.2 0, 12, .inl (upd dsx j1 (nI j2))))] _ := hPc
        refine lv_aload_n hx hb dX5_change_57 rfl (lv_at hl 0 rfl) ?_
        refine va_get (D := Y.1) (ci := 5) (v := .ref (ad 3)) (C := RX5) (T := TX5) (N := 5) hx hb hts inX5 hown hK (th_gO hG) 0 rfl rfl 2 (by decide) (hts _ tw_1_135) (fun _ h9 => h9) rfl dX5_change_58 ?_
        refine va_getN (D := Y.1) (ci := 0) (v := .int (nI (if j1 = S.2.2.2.1 then S.2.2.2.1 + 1 else S.2.2.2.1))) (C := RX0) (T := TX0) (N := 3) hx hb hts inX0 hown hK hP 0 rfl rfl 0 (by decide) (va_Nw.use rfl (tn_1_64 hN)) (fun _ h9 => h9) rfl dX5_change_61 ?_
        refine thx_iret hx hb hr hlk hQ hS dX5_change_64 (Nat.le_of_ble_eq_true rfl) (Nat.le_of_ble_eq_true rfl) ?_
        have q3 : j1 < 12 := by omega
        refine ⟨_, rfl, ?_⟩
        unfold sp_change
        simp only [zj1, zj2]
        rw [th_ifT q1, th_ifT q2, th_ifT q3]
        exact ⟨rfl, rfl, th_GWD hG hJ hv (by unfold th_chN; split <;> omega) (th_updE (fun j9 hj9 hne9 => hv.2.2.2.1 j9 (by unfold th_chN at hj9; split at hj9 <;> omega)))⟩
      have q3 : ¬ (j1 < 12) := by omega
      refine thx_throw (cls := "java/lang/IllegalStateException") (text := "the proof has as many sums as it can have") (ik := 61) (is := 100) (ic := 65) hx hb hl0 hml hown hts hl hlk hX hQ hS (by decide) tw_2_30 tw_1_13 ts_100 th_at2 dX5_change_38 dX5_change_41 dX5_change_42 dX5_change_44 dX5_change_47 (Nat.le_of_ble_eq_true rfl) (Nat.le_of_ble_eq_true rfl) (Nat.le_of_ble_eq_true rfl) (Nat.le_of_ble_eq_true rfl) (Nat.le_of_ble_eq_true rfl) (Nat.le_of_ble_eq_true rfl) (fun H9 hsm9 => ?_)
      refine ⟨2, rfl, ?_, th_GWs (th_gkeep hG hsm9) hJ hv⟩
      unfold sp_change
      simp only [zj1, zj2]
      rw [th_ifT q1, th_ifT q2, th_ifF (fun z9 => q3 z9)]
      all_goals rfl
  have q1 : ¬ th_ir (nI j1) 0 (S.2.2.2.1 + 1) := fun z9 => by have := th_irI hj1 (by omega) z9; omega
  refine thx_throw (cls := "java/lang/IndexOutOfBoundsException") (text := "no such place in the proof, nor right behind it") (ik := 72) (is := 97) (ic := 76) hx hb hl0 hml hown hts hl hlk hX hQ hS (by decide) tw_1_179 tw_1_11 ts_97 th_at0 dX5_change_15 dX5_change_18 dX5_change_19 dX5_change_21 dX5_change_24 (Nat.le_of_ble_eq_true rfl) (Nat.le_of_ble_eq_true rfl) (Nat.le_of_ble_eq_true rfl) (Nat.le_of_ble_eq_true rfl) (Nat.le_of_ble_eq_true rfl) (Nat.le_of_ble_eq_true rfl) (fun H9 hsm9 => ?_)
  refine ⟨0, rfl, ?_, th_GWs (th_gkeep hG hsm9) hJ hv⟩
  unfold sp_change
  simp only [zj1]
  rw [th_ifF (fun z9 => q1 z9)]
  all_goals rfl

set_option maxRecDepth 100000 in
set_option maxHeartbeats 4000000 in
theorem c_X5_shorten (l : Launch) (hl0 : l.stackTraces = false) (Y : th_Y) (H0 : Heap) (ad : Nat → Nat) (S : th_S) (Vx B : Nat → Nat → Int32) (dsx kvx ks : Nat → Int32) (wy : Nat → Nat) (wz : Nat → Nat → Int32) (hI : th_I Y ad S Vx B dsx kvx ks wy wz H0) : th_MX l Y yX5_shorten cX5_shorten 1 (some .int) (th_rm 6 8 400) [.ref (ad 0)] H0 (th_gA ad S.1 H0.size) (th_po Y (ad 0) (th_gA ad S.1 H0.size) (sp_shorten S)) (th_px Y ["java/lang/IllegalStateException"] (ad 0) (th_gA ad S.1 H0.size) S (sp_shorten S)) := by
  refine th_MX.intro (by decide) (Nat.le_of_ble_eq_true rfl) ?_
  intro p e s m args below meth c ls Q hQ C hKN hl hS hX
  obtain ⟨hx, hb, hr, hml, hown, hts, hlk, hnm⟩ := C
  obtain ⟨hK, hN⟩ := hKN
  have hown : s.vm.findClass RX5 = some m.cls := hown
  have hl : lv_has ls 1 [(0, .ref (ad 0))] := hl
  obtain ⟨hG, hJ, hv⟩ := hI
  have hv1 := hv.1
  have hv12 := hv.2.2.1
  refine lv_aload_n hx hb dX5_shorten_0 rfl (lv_at hl 0 rfl) ?_
  refine va_get (D := Y.1) (ci := 5) (v := .ref (ad 3)) (C := RX5) (T := TX5) (N := 5) hx hb hts inX5 hown hK (th_gO hG) 0 rfl rfl 2 (by decide) (hts _ tw_1_135) (fun _ h9 => h9) rfl dX5_shorten_1 ?_
  refine va_getN (D := Y.1) (ci := 0) (v := .int (nI S.2.2.2.1)) (C := RX0) (T := TX0) (N := 3) hx hb hts inX0 hown hK (th_gDk hG) 0 rfl rfl 0 (by decide) (va_Nw.use rfl (tn_1_64 hN)) (fun _ h9 => h9) rfl dX5_shorten_4 ?_
  refine lv_iconst (v := nI 1) hx hb dX5_shorten_7 (by decide) ?_
  refine th_ige (tgt := 21) hx hb dX5_shorten_8 (by decide) (by omega) (by omega) (fun c_1 => ?_) (fun c_1 => ?_)
  · skip
    have q1 : 1 ≤ S.2.2.2.1 := by omega
    refine lv_aload_n hx hb dX5_shorten_21 rfl (lv_at hl 0 rfl) ?_
    refine va_get (D := Y.1) (ci := 5) (v := .ref (ad 3)) (C := RX5) (T := TX5) (N := 5) hx hb hts inX5 hown hK (th_gO hG) 0 rfl rfl 2 (by decide) (hts _ tw_1_135) (fun _ h9 => h9) rfl dX5_shorten_22 ?_
    refine th_callV hx hb hml hown hts ⟨hK, hN⟩ hl hS ((th_gDk hG) 0 _ rfl) rfl (rest := []) (c_X0_dropLast l Y _ (ad 3) (ad 4) (ad 5) (S.2.2.2.1) dsx (th_gE hG) (th_gD hJ [3, 4] (fun k9 hk9 => by simp only [List.mem_cons, List.not_mem_nil, or_false] at hk9; omega) th_ndE rfl) (by omega) hv.2.2.1) ok_X0_dropLast tw_2_225 dX5_shorten_25 rfl rfl (Nat.le_of_ble_eq_true rfl) ⟨Nat.le_of_ble_eq_true rfl, Nat.le_of_ble_eq_true rfl⟩ ⟨Nat.le_of_ble_eq_true rfl, Nat.le_of_ble_eq_true rfl⟩ (th_gAm (ad := ad) [3, 4] (fun k9 hk9 => by simp only [List.mem_cons, List.not_mem_nil, or_false] at hk9; omega)) (th_ki (fun r9 H locs hp hsm hS => ?_))
    obtain ⟨hr9, hPc⟩ := hp
    subst hr9
    have hG := th_guE hG hJ hsm hPc
    have hP : va_P Y.1 vwCl [(ad 3, .inr (0, [.int (nI (S.2.2.2.1 - 1)), .ref (ad 4), .ref (ad 5)])), (ad 4, .inl (Y.2 0, 12, .inl dsx))] _ := hPc
    refine th_ti (hv.2.2.2.1 _ (by omega)) ?_
    refine thx_iret hx hb hr hlk hQ hS dX5_shorten_28 (Nat.le_of_ble_eq_true rfl) (Nat.le_of_ble_eq_true rfl) ?_
    refine ⟨_, rfl, ?_⟩
    unfold sp_shorten
    rw [th_ifT q1]
    exact ⟨rfl, rfl, th_GWD hG hJ hv (by omega) (fun j9 hj9 => hv.2.2.2.1 j9 (by omega))⟩
  have q1 : ¬ (1 ≤ S.2.2.2.1) := by omega
  refine thx_throw (cls := "java/lang/IllegalStateException") (text := "the proof has no sum") (ik := 61) (is := 106) (ic := 65) hx hb hl0 hml hown hts hl hlk hX hQ hS (by decide) tw_2_30 tw_1_13 ts_106 th_at2 dX5_shorten_11 dX5_shorten_14 dX5_shorten_15 dX5_shorten_17 dX5_shorten_20 (Nat.le_of_ble_eq_true rfl) (Nat.le_of_ble_eq_true rfl) (Nat.le_of_ble_eq_true rfl) (Nat.le_of_ble_eq_true rfl) (Nat.le_of_ble_eq_true rfl) (Nat.le_of_ble_eq_true rfl) (fun H9 hsm9 => ?_)
  refine ⟨0, rfl, ?_, th_GWs (th_gkeep hG hsm9) hJ hv⟩
  unfold sp_shorten
  rw [th_ifF (fun z9 => q1 z9)]
  all_goals rfl

set_option maxRecDepth 100000 in
set_option maxHeartbeats 4000000 in
theorem c_X5_sumAt (l : Launch) (hl0 : l.stackTraces = false) (Y : th_Y) (H0 : Heap) (ad : Nat → Nat) (S : th_S) (Vx B : Nat → Nat → Int32) (dsx kvx ks : Nat → Int32) (wy : Nat → Nat) (wz : Nat → Nat → Int32) (hI : th_I Y ad S Vx B dsx kvx ks wy wz H0) (x1 : Int32) : th_MX l Y yX5_sumAt cX5_sumAt 2 (some .int) (th_rm 6 8 400) [.ref (ad 0), .int x1] H0 (th_gA ad S.1 H0.size) (th_po Y (ad 0) (th_gA ad S.1 H0.size) (sp_sumAt S x1)) (th_px Y ["java/lang/IndexOutOfBoundsException"] (ad 0) (th_gA ad S.1 H0.size) S (sp_sumAt S x1)) := by
  refine th_MX.intro (by decide) (Nat.le_of_ble_eq_true rfl) ?_
  intro p e s m args below meth c ls Q hQ C hKN hl hS hX
  obtain ⟨hx, hb, hr, hml, hown, hts, hlk, hnm⟩ := C
  obtain ⟨hK, hN⟩ := hKN
  have hown : s.vm.findClass RX5 = some m.cls := hown
  have hl : lv_has ls 2 [(0, .ref (ad 0)), (1, .int x1)] := hl
  obtain ⟨hG, hJ, hv⟩ := hI
  have hv1 := hv.1
  have hv12 := hv.2.2.1
  refine lv_iload_n hx hb dX5_sumAt_0 rfl (lv_at hl 1 rfl) ?_
  refine lv_if_lt (tgt := 15) hx hb dX5_sumAt_1 (by decide) (fun c_1 => ?_) (fun c_1 => ?_)
  · skip
    have q1 : ¬ th_ir x1 0 (S.2.2.2.1) := th_neg c_1 (by omega)
    refine thx_throw (cls := "java/lang/IndexOutOfBoundsException") (text := "no such place in the proof") (ik := 72) (is := 112) (ic := 76) hx hb hl0 hml hown hts hl hlk hX hQ hS (by decide) tw_1_179 tw_1_11 ts_112 th_at0 dX5_sumAt_15 dX5_sumAt_18 dX5_sumAt_19 dX5_sumAt_21 dX5_sumAt_24 (Nat.le_of_ble_eq_true rfl) (Nat.le_of_ble_eq_true rfl) (Nat.le_of_ble_eq_true rfl) (Nat.le_of_ble_eq_true rfl) (Nat.le_of_ble_eq_true rfl) (Nat.le_of_ble_eq_true rfl) (fun H9 hsm9 => ?_)
    refine ⟨0, rfl, ?_, th_GWs (th_gkeep hG hsm9) hJ hv⟩
    unfold sp_sumAt
    rw [th_ifF (fun z9 => q1 z9)]
    all_goals rfl
  obtain ⟨j1, hj1, hx1⟩ := nI_of c_1
  subst hx1
  have zj1 : th_ix (nI j1) = j1 := th_ixN hj1
  refine lv_iload_n hx hb dX5_sumAt_4 rfl (lv_at hl 1 rfl) ?_
  refine lv_aload_n hx hb dX5_sumAt_5 rfl (lv_at hl 0 rfl) ?_
  refine va_get (D := Y.1) (ci := 5) (v := .ref (ad 3)) (C := RX5) (T := TX5) (N := 5) hx hb hts inX5 hown hK (th_gO hG) 0 rfl rfl 2 (by decide) (hts _ tw_1_135) (fun _ h9 => h9) rfl dX5_sumAt_6 ?_
  refine va_getN (D := Y.1) (ci := 0) (v := .int (nI S.2.2.2.1)) (C := RX0) (T := TX0) (N := 3) hx hb hts inX0 hown hK (th_gDk hG) 0 rfl rfl 0 (by decide) (va_Nw.use rfl (tn_1_64 hN)) (fun _ h9 => h9) rfl dX5_sumAt_9 ?_
  refine th_ilt (tgt := 25) hx hb dX5_sumAt_12 (by decide) (by omega) (by omega) (fun c_2 => ?_) (fun c_2 => ?_)
  · skip
    have q1 : th_ir (nI j1) 0 (S.2.2.2.1) := th_irN (Nat.zero_le _) (by omega)
    refine lv_aload_n hx hb dX5_sumAt_25 rfl (lv_at hl 0 rfl) ?_
    refine va_get (D := Y.1) (ci := 5) (v := .ref (ad 3)) (C := RX5) (T := TX5) (N := 5) hx hb hts inX5 hown hK (th_gO hG) 0 rfl rfl 2 (by decide) (hts _ tw_1_135) (fun _ h9 => h9) rfl dX5_sumAt_26 ?_
    refine lv_iload_n hx hb dX5_sumAt_29 rfl (lv_at hl 1 rfl) ?_
    refine th_callV hx hb hml hown hts ⟨hK, hN⟩ hl hS ((th_gDk hG) 0 _ rfl) rfl (rest := []) (c_X0_read l Y _ (ad 3) (ad 4) (ad 5) (S.2.2.2.1) dsx (th_gE hG) j1 (by omega) hv.2.2.1) ok_X0_read tw_3_1 dX5_sumAt_30 rfl rfl (Nat.le_of_ble_eq_true rfl) ⟨Nat.le_of_ble_eq_true rfl, Nat.le_of_ble_eq_true rfl⟩ ⟨Nat.le_of_ble_eq_true rfl, Nat.le_of_ble_eq_true rfl⟩ (fun _ h => h.elim) (th_kpi (fun locs hS => ?_))
    refine th_ti (hv.2.2.2.1 _ (by omega)) ?_
    refine thx_iret hx hb hr hlk hQ hS dX5_sumAt_33 (Nat.le_of_ble_eq_true rfl) (Nat.le_of_ble_eq_true rfl) ?_
    refine ⟨_, rfl, ?_⟩
    unfold sp_sumAt
    simp only [zj1]
    rw [th_ifT q1]
    exact ⟨rfl, rfl, th_GWs hG hJ hv⟩
  have q1 : ¬ th_ir (nI j1) 0 (S.2.2.2.1) := fun z9 => by have := th_irI hj1 (by omega) z9; omega
  refine thx_throw (cls := "java/lang/IndexOutOfBoundsException") (text := "no such place in the proof") (ik := 72) (is := 112) (ic := 76) hx hb hl0 hml hown hts hl hlk hX hQ hS (by decide) tw_1_179 tw_1_11 ts_112 th_at0 dX5_sumAt_15 dX5_sumAt_18 dX5_sumAt_19 dX5_sumAt_21 dX5_sumAt_24 (Nat.le_of_ble_eq_true rfl) (Nat.le_of_ble_eq_true rfl) (Nat.le_of_ble_eq_true rfl) (Nat.le_of_ble_eq_true rfl) (Nat.le_of_ble_eq_true rfl) (Nat.le_of_ble_eq_true rfl) (fun H9 hsm9 => ?_)
  refine ⟨0, rfl, ?_, th_GWs (th_gkeep hG hsm9) hJ hv⟩
  unfold sp_sumAt
  simp only [zj1]
  rw [th_ifF (fun z9 => q1 z9)]
  all_goals rfl

set_option maxRecDepth 100000 in
set_option maxHeartbeats 4000000 in
theorem c_X5_testLeaf (l : Launch) (hl0 : l.stackTraces = false) (Y : th_Y) (H0 : Heap) (ad : Nat → Nat) (S : th_S) (Vx B : Nat → Nat → Int32) (dsx kvx ks : Nat → Int32) (wy : Nat → Nat) (wz : Nat → Nat → Int32) (hI : th_I Y ad S Vx B dsx kvx ks wy wz H0) (x1 x2 x3 x4 : Int32) : th_MX l Y yX5_testLeaf cX5_testLeaf 6 (some .boolean) (th_rm 6 8 400) [.ref (ad 0), .int x1, .int x2, .int x3, .int x4] H0 (th_gA ad S.1 H0.size) (th_po Y (ad 0) (th_gA ad S.1 H0.size) (sp_testLeaf S x1 x2 x3 x4)) (th_px Y ["java/lang/IndexOutOfBoundsException", "java/lang/IllegalArgumentException"] (ad 0) (th_gA ad S.1 H0.size) S (sp_testLeaf S x1 x2 x3 x4)) := by
  refine th_MX.intro (by decide) (Nat.le_of_ble_eq_true rfl) ?_
  intro p e s m args below meth c ls Q hQ C hKN hl hS hX
  obtain ⟨hx, hb, hr, hml, hown, hts, hlk, hnm⟩ := C
  obtain ⟨hK, hN⟩ := hKN
  have hown : s.vm.findClass RX5 = some m.cls := hown
  have hl : lv_has ls 6 [(0, .ref (ad 0)), (1, .int x1), (2, .int x2), (3, .int x3), (4, .int x4)] := hl
  obtain ⟨hG, hJ, hv⟩ := hI
  have hv1 := hv.1
  have hv12 := hv.2.2.1
  refine lv_aload_n hx hb dX5_testLeaf_0 rfl (lv_at hl 0 rfl) ?_
  refine lv_iload_n hx hb dX5_testLeaf_1 rfl (lv_at hl 1 rfl) ?_
  refine thx_callV hx hb hml hown hts ⟨hK, hN⟩ hl hS hX ((th_gO hG) 0 _ rfl) rfl (rest := []) (c_X5_viewNumbered l hl0 Y _ ad S.1 S.2.1 Vx B S.2.2.2.1 dsx wy wz kvx ks S.2.2.2.2.2.2.1 S.2.2.2.2.2.2.2 hG hv.1.2 x1) ok_X5_viewNumbered tw_1_175 dX5_testLeaf_2 rfl rfl (Nat.le_of_ble_eq_true rfl) ⟨(Nat.le_of_ble_eq_true rfl), (Nat.le_of_ble_eq_true rfl)⟩ ⟨(Nat.le_of_ble_eq_true rfl), (Nat.le_of_ble_eq_true rfl)⟩ (fun _ h => h.elim) ?_ ?_
  · rintro E9 ce9 q9 H9 locs9 ⟨rfl, hng9⟩ hsm9 hS9 hc9 hv9 hcl9
    refine thx_out hlk hX.2.2 hQ hS9 hc9 hv9 hcl9 (Nat.le_of_ble_eq_true rfl) (Nat.le_of_ble_eq_true rfl) ?_
    have q1 : ¬ th_ir x1 0 (S.1) := hng9
    refine ⟨0, rfl, ?_, th_GWs (th_gkeep hG hsm9) hJ hv⟩
    unfold sp_testLeaf
    simp only [th_qL, th_qG]
    rw [th_ifF (fun z9 => q1 z9)]
    all_goals rfl
  · skip
    refine th_kpr (fun r9 locs hr9 hS => ?_)
    obtain ⟨j1, hj1, ux9, rfl⟩ := hr9
    subst ux9
    have q1 : th_ir (nI j1) 0 (S.1) := th_irN (Nat.zero_le _) hj1
    have zj1 : th_ix (nI j1) = j1 := th_ixN (by have := hv.1; omega)
    obtain ⟨hnj1, hBj1, hfj1⟩ := hv.2.1 j1 hj1
    refine lv_astore (lv' := [(5, .ref (ad (16 + 3 * j1))), (0, .ref (ad 0)), (1, .int (nI j1)), (2, .int x2), (3, .int x3), (4, .int x4)]) hx hb dX5_testLeaf_5 hl (by decide) rfl (fun ls hl => ?_)
    refine lv_iload_n hx hb dX5_testLeaf_7 rfl (lv_at hl 3 rfl) ?_
    refine lv_iconst (v := nI 0) hx hb dX5_testLeaf_8 (by decide) ?_
    refine lv_ldc hx hb hown (hts _ tw_2_7) dX5_testLeaf_9 ?_
    refine th_ti (show (65535 : Int32) = nI 65535 from rfl) ?_
    refine thx_callS hx hb hml hown hts ⟨hK, hN⟩ hl hS hX (rest := []) (c_X5_requireRange l hl0 Y _ x2 (nI 0) (nI 65535)) ok_X5_requireRange tw_2_8 dX5_testLeaf_11 rfl rfl (Nat.le_of_ble_eq_true rfl) ⟨(Nat.le_of_ble_eq_true rfl), (Nat.le_of_ble_eq_true rfl)⟩ ⟨(Nat.le_of_ble_eq_true rfl), (Nat.le_of_ble_eq_true rfl)⟩ (fun _ h => h.elim) ?_ ?_
    · rintro E9 ce9 q9 H9 locs9 ⟨rfl, hng9⟩ hsm9 hS9 hc9 hv9 hcl9
      refine thx_out hlk hX.2.2 hQ hS9 hc9 hv9 hcl9 (Nat.le_of_ble_eq_true rfl) (Nat.le_of_ble_eq_true rfl) ?_
      have q2 : ¬ th_ir x2 0 65536 := fun z9 => hng9 (th_irB (by omega) (by omega) (th_irE z9 (by omega)))
      refine ⟨1, rfl, ?_, th_GWs (th_gkeep hG hsm9) hJ hv⟩
      unfold sp_testLeaf
      simp only [th_qL, th_qG, zj1]
      rw [th_ifT q1, th_ifF (fun z9 => q2 z9.1)]
      all_goals rfl
    · skip
      refine th_kpv (fun locs hr9 hS => ?_)
      have q2 : th_ir x2 0 65536 := th_irE (th_irO (by omega) (by omega) hr9.1 hr9.2) (by omega)
      have uq9 := q2
      obtain ⟨j2, j2a, j2b, ux9⟩ := uq9
      subst ux9
      have zj2 : th_ix (nI j2) = j2 := th_ixN (by omega)
      refine lv_iload hx hb dX5_testLeaf_14 (lv_at hl 5 rfl) ?_
      refine lv_iconst (v := nI 1) hx hb dX5_testLeaf_16 (by decide) ?_
      refine lv_aload hx hb dX5_testLeaf_17 (lv_at hl 0 rfl) ?_
      refine va_getN (D := Y.1) (ci := 2) (v := .int (nI (S.2.1 j1))) (C := RX2) (T := TX2) (N := 3) hx hb hts inX2 hown hK (th_gV hG hj1) 0 rfl rfl 0 (by decide) (va_Nw.use rfl (tn_1_94 hN)) (fun _ h9 => h9) rfl dX5_testLeaf_19 ?_
      refine thx_callS hx hb hml hown hts ⟨hK, hN⟩ hl hS hX (rest := []) (c_X5_requireRange l hl0 Y _ x4 (nI 1) (nI (S.2.1 j1))) ok_X5_requireRange tw_2_8 dX5_testLeaf_22 rfl rfl (Nat.le_of_ble_eq_true rfl) ⟨(Nat.le_of_ble_eq_true rfl), (Nat.le_of_ble_eq_true rfl)⟩ ⟨(Nat.le_of_ble_eq_true rfl), (Nat.le_of_ble_eq_true rfl)⟩ (fun _ h => h.elim) ?_ ?_
      · rintro E9 ce9 q9 H9 locs9 ⟨rfl, hng9⟩ hsm9 hS9 hc9 hv9 hcl9
        refine thx_out hlk hX.2.2 hQ hS9 hc9 hv9 hcl9 (Nat.le_of_ble_eq_true rfl) (Nat.le_of_ble_eq_true rfl) ?_
        have q4 : ¬ th_ir x4 1 (S.2.1 j1 + 1) := fun z9 => hng9 (th_irB (by omega) (by omega) (th_irE z9 (by omega)))
        refine ⟨1, rfl, ?_, th_GWs (th_gkeep hG hsm9) hJ hv⟩
        unfold sp_testLeaf
        simp only [th_qL, th_qG, zj1, zj2]
        rw [th_ifT q1, th_ifF (fun z9 => q4 z9.2.1)]
        all_goals rfl
      · skip
        refine th_kpv (fun locs hr9 hS => ?_)
        have q4 : th_ir x4 1 (S.2.1 j1 + 1) := th_irE (th_irO (by omega) (by omega) hr9.1 hr9.2) (by omega)
        have uq9 := q4
        obtain ⟨j4, j4a, j4b, ux9⟩ := uq9
        subst ux9
        have zj4 : th_ix (nI j4) = j4 := th_ixN (by omega)
        refine lv_iload_n hx hb dX5_testLeaf_25 rfl (lv_at hl 4 rfl) ?_
        refine lv_iconst (v := nI 0) hx hb dX5_testLeaf_26 (by decide) ?_
        refine lv_iload hx hb dX5_testLeaf_27 (lv_at hl 5 rfl) ?_
        refine lv_iconst (v := nI 1) hx hb dX5_testLeaf_29 (by decide) ?_
        refine lv_isub hx hb dX5_testLeaf_30 ?_
        refine th_ti (pk_sub (by omega)) ?_
        refine thx_callS hx hb hml hown hts ⟨hK, hN⟩ hl hS hX (rest := []) (c_X5_requireRange l hl0 Y _ x3 (nI 0) (nI (j4 - 1))) ok_X5_requireRange tw_2_8 dX5_testLeaf_31 rfl rfl (Nat.le_of_ble_eq_true rfl) ⟨(Nat.le_of_ble_eq_true rfl), (Nat.le_of_ble_eq_true rfl)⟩ ⟨(Nat.le_of_ble_eq_true rfl), (Nat.le_of_ble_eq_true rfl)⟩ (fun _ h => h.elim) ?_ ?_
        · rintro E9 ce9 q9 H9 locs9 ⟨rfl, hng9⟩ hsm9 hS9 hc9 hv9 hcl9
          refine thx_out hlk hX.2.2 hQ hS9 hc9 hv9 hcl9 (Nat.le_of_ble_eq_true rfl) (Nat.le_of_ble_eq_true rfl) ?_
          have q3 : ¬ th_ir x3 0 j4 := fun z9 => hng9 (th_irB (by omega) (by omega) (th_irE z9 (by omega)))
          refine ⟨1, rfl, ?_, th_GWs (th_gkeep hG hsm9) hJ hv⟩
          unfold sp_testLeaf
          simp only [th_qL, th_qG, zj1, zj2, zj4]
          rw [th_ifT q1, th_ifF (fun z9 => q3 z9.2.2)]
          all_goals rfl
        · skip
          refine th_kpv (fun locs hr9 hS => ?_)
          have q3 : th_ir x3 0 j4 := th_irE (th_irO (by omega) (by omega) hr9.1 hr9.2) (by omega)
          have uq9 := q3
          obtain ⟨j3, j3a, j3b, ux9⟩ := uq9
          subst ux9
          have zj3 : th_ix (nI j3) = j3 := th_ixN (by omega)
          refine lv_aload_n hx hb dX5_testLeaf_34 rfl (lv_at hl 1 rfl) ?_
          refine va_get (D := Y.1) (ci := 5) (v := .ref (ad 3)) (C := RX5) (T := TX5) (N := 5) hx hb hts inX5 hown hK (th_gO hG) 0 rfl rfl 2 (by decide) (hts _ tw_1_135) (fun _ h9 => h9) rfl dX5_testLeaf_35 ?_
          refine lv_iload_n hx hb dX5_testLeaf_38 rfl (lv_at hl 3 rfl) ?_
          refine lv_iload_n hx hb dX5_testLeaf_39 rfl (lv_at hl 4 rfl) ?_
          refine lv_iload hx hb dX5_testLeaf_40 (lv_at hl 5 rfl) ?_
          refine lv_aload hx hb dX5_testLeaf_42 (lv_at hl 0 rfl) ?_
          refine lv_iload hx hb dX5_testLeaf_44 (lv_at hl 5 rfl) ?_
          refine th_callV hx hb hml hown hts ⟨hK, hN⟩ hl hS ((th_gV hG hj1) 0 _ rfl) rfl (rest := [.int (nI j4), .int (nI j3), .int (nI j2), .ref (ad 3)]) (c_X2_rootAt l Y _ (ad (16 + 3 * j1)) (ad (16 + 3 * j1 + 1)) (ad (16 + 3 * j1 + 2)) (S.2.1 j1) (Vx j1) (B j1) (th_gV hG hj1) j4 hnj1 (by omega) hBj1) ok_X2_rootAt tw_2_103 dX5_testLeaf_46 rfl rfl (Nat.le_of_ble_eq_true rfl) ⟨Nat.le_of_ble_eq_true rfl, Nat.le_of_ble_eq_true rfl⟩ ⟨Nat.le_of_ble_eq_true rfl, Nat.le_of_ble_eq_true rfl⟩ (fun _ h => h.elim) (th_kpi (fun locs hS => ?_))
          refine th_ti (th_rtE hv hj1 (by omega)) ?_
          refine th_callV hx hb hml hown hts ⟨hK, hN⟩ hl hS ((th_gDk hG) 0 _ rfl) rfl (rest := []) (c_X0_provesLeaf l Y _ (ad 3) (ad 4) (ad 5) (S.2.2.2.1) dsx (ad 6) (ad 7) (ad 8) (wy 0) (wy 1) (wy 2) (wy 3) (wz 0) (wz 1) (wz 2) (th_gDk hG) (th_gD hJ [3, 4, 5, 6, 7, 8] (fun k9 hk9 => by simp only [List.mem_cons, List.not_mem_nil, or_false] at hk9; omega) th_ndD rfl) hv.2.2.1 (nI j2) (th_rt (S.2.2.1 j1) 0 j4) j3 j4 (by omega) (by omega)) ok_X0_provesLeaf tw_3_9 dX5_testLeaf_49 rfl rfl (Nat.le_of_ble_eq_true rfl) ⟨Nat.le_of_ble_eq_true rfl, Nat.le_of_ble_eq_true rfl⟩ ⟨Nat.le_of_ble_eq_true rfl, Nat.le_of_ble_eq_true rfl⟩ (th_gAm (ad := ad) [3, 4, 5, 6, 7, 8] (fun k9 hk9 => by simp only [List.mem_cons, List.not_mem_nil, or_false] at hk9; omega)) (th_ki (fun r9 H locs hp hsm hS => ?_))
          obtain ⟨hr9, r1, F1, N1, T1, fr1, le1, fi1, hPc⟩ := hp
          subst hr9
          have hG := th_guD hG hJ hsm hPc
          refine th_ti (th_bE (th_aLE (fun j9 hj9 => hv.2.2.2.1 j9 hj9))) ?_
          refine thx_zret hx hb hr hlk hQ hS dX5_testLeaf_52 (Nat.le_of_ble_eq_true rfl) (Nat.le_of_ble_eq_true rfl) (by first | exact Or.inl rfl | exact Or.inr rfl | exact th_b01 _ | assumption) ?_
          refine ⟨_, rfl, ?_⟩
          unfold sp_testLeaf
          simp only [th_qL, th_qG, zj1, zj2, zj4, zj3]
          rw [th_ifT q1, th_ifT ⟨q2, q4, q3⟩]
          exact ⟨rfl, rfl, th_GWs hG hJ hv⟩

set_option maxRecDepth 100000 in
set_option maxHeartbeats 4000000 in
theorem c_X5_testGrowth (l : Launch) (hl0 : l.stackTraces = false) (Y : th_Y) (H0 : Heap) (ad : Nat → Nat) (S : th_S) (Vx B : Nat → Nat → Int32) (dsx kvx ks : Nat → Int32) (wy : Nat → Nat) (wz : Nat → Nat → Int32) (hI : th_I Y ad S Vx B dsx kvx ks wy wz H0) (x1 x2 x3 x4 : Int32) : th_MX l Y yX5_testGrowth cX5_testGrowth 7 (some .boolean) (th_rm 6 8 400) [.ref (ad 0), .int x1, .int x2, .int x3, .int x4] H0 (th_gA ad S.1 H0.size) (th_po Y (ad 0) (th_gA ad S.1 H0.size) (sp_testGrowth S x1 x2 x3 x4)) (th_px Y ["java/lang/IndexOutOfBoundsException", "java/lang/IllegalArgumentException"] (ad 0) (th_gA ad S.1 H0.size) S (sp_testGrowth S x1 x2 x3 x4)) := by
  refine th_MX.intro (by decide) (Nat.le_of_ble_eq_true rfl) ?_
  intro p e s m args below meth c ls Q hQ C hKN hl hS hX
  obtain ⟨hx, hb, hr, hml, hown, hts, hlk, hnm⟩ := C
  obtain ⟨hK, hN⟩ := hKN
  have hown : s.vm.findClass RX5 = some m.cls := hown
  have hl : lv_has ls 7 [(0, .ref (ad 0)), (1, .int x1), (2, .int x2), (3, .int x3), (4, .int x4)] := hl
  obtain ⟨hG, hJ, hv⟩ := hI
  have hv1 := hv.1
  have hv12 := hv.2.2.1
  refine lv_aload_n hx hb dX5_testGrowth_0 rfl (lv_at hl 0 rfl) ?_
  refine lv_iload_n hx hb dX5_testGrowth_1 rfl (lv_at hl 1 rfl) ?_
  refine thx_callV hx hb hml hown hts ⟨hK, hN⟩ hl hS hX ((th_gO hG) 0 _ rfl) rfl (rest := []) (c_X5_viewNumbered l hl0 Y _ ad S.1 S.2.1 Vx B S.2.2.2.1 dsx wy wz kvx ks S.2.2.2.2.2.2.1 S.2.2.2.2.2.2.2 hG hv.1.2 x1) ok_X5_viewNumbered tw_1_175 dX5_testGrowth_2 rfl rfl (Nat.le_of_ble_eq_true rfl) ⟨(Nat.le_of_ble_eq_true rfl), (Nat.le_of_ble_eq_true rfl)⟩ ⟨(Nat.le_of_ble_eq_true rfl), (Nat.le_of_ble_eq_true rfl)⟩ (fun _ h => h.elim) ?_ ?_
  · rintro E9 ce9 q9 H9 locs9 ⟨rfl, hng9⟩ hsm9 hS9 hc9 hv9 hcl9
    refine thx_out hlk hX.2.2 hQ hS9 hc9 hv9 hcl9 (Nat.le_of_ble_eq_true rfl) (Nat.le_of_ble_eq_true rfl) ?_
    have q1 : ¬ th_ir x1 0 (S.1) := hng9
    refine ⟨0, rfl, ?_, th_GWs (th_gkeep hG hsm9) hJ hv⟩
    unfold sp_testGrowth
    simp only [th_qL, th_qG]
    rw [th_ifF (fun z9 => q1 z9.1)]
    all_goals rfl
  · skip
    refine th_kpr (fun r9 locs hr9 hS => ?_)
    obtain ⟨j1, hj1, ux9, rfl⟩ := hr9
    subst ux9
    have q1 : th_ir (nI j1) 0 (S.1) := th_irN (Nat.zero_le _) hj1
    have zj1 : th_ix (nI j1) = j1 := th_ixN (by have := hv.1; omega)
    obtain ⟨hnj1, hBj1, hfj1⟩ := hv.2.1 j1 hj1
    refine lv_astore (lv' := [(5, .ref (ad (16 + 3 * j1))), (0, .ref (ad 0)), (1, .int (nI j1)), (2, .int x2), (3, .int x3), (4, .int x4)]) hx hb dX5_testGrowth_5 hl (by decide) rfl (fun ls hl => ?_)
    refine lv_aload_n hx hb dX5_testGrowth_7 rfl (lv_at hl 1 rfl) ?_
    refine lv_iload_n hx hb dX5_testGrowth_8 rfl (lv_at hl 4 rfl) ?_
    refine thx_callV hx hb hml hown hts ⟨hK, hN⟩ hl hS hX ((th_gO hG) 0 _ rfl) rfl (rest := []) (c_X5_viewNumbered l hl0 Y _ ad S.1 S.2.1 Vx B S.2.2.2.1 dsx wy wz kvx ks S.2.2.2.2.2.2.1 S.2.2.2.2.2.2.2 hG hv.1.2 x3) ok_X5_viewNumbered tw_1_175 dX5_testGrowth_9 rfl rfl (Nat.le_of_ble_eq_true rfl) ⟨(Nat.le_of_ble_eq_true rfl), (Nat.le_of_ble_eq_true rfl)⟩ ⟨(Nat.le_of_ble_eq_true rfl), (Nat.le_of_ble_eq_true rfl)⟩ (fun _ h => h.elim) ?_ ?_
    · rintro E9 ce9 q9 H9 locs9 ⟨rfl, hng9⟩ hsm9 hS9 hc9 hv9 hcl9
      refine thx_out hlk hX.2.2 hQ hS9 hc9 hv9 hcl9 (Nat.le_of_ble_eq_true rfl) (Nat.le_of_ble_eq_true rfl) ?_
      have q3 : ¬ th_ir x3 0 (S.1) := hng9
      refine ⟨0, rfl, ?_, th_GWs (th_gkeep hG hsm9) hJ hv⟩
      unfold sp_testGrowth
      simp only [th_qL, th_qG, zj1]
      rw [th_ifF (fun z9 => q3 z9.2)]
      all_goals rfl
    · skip
      refine th_kpr (fun r9 locs hr9 hS => ?_)
      obtain ⟨j3, hj3, ux9, rfl⟩ := hr9
      subst ux9
      have q3 : th_ir (nI j3) 0 (S.1) := th_irN (Nat.zero_le _) hj3
      have zj3 : th_ix (nI j3) = j3 := th_ixN (by have := hv.1; omega)
      obtain ⟨hnj3, hBj3, hfj3⟩ := hv.2.1 j3 hj3
      refine lv_astore (lv' := [(6, .ref (ad (16 + 3 * j3))), (5, .ref (ad (16 + 3 * j1))), (0, .ref (ad 0)), (1, .int (nI j1)), (2, .int x2), (3, .int (nI j3)), (4, .int x4)]) hx hb dX5_testGrowth_12 hl (by decide) rfl (fun ls hl => ?_)
      refine lv_iload hx hb dX5_testGrowth_14 (lv_at hl 6 rfl) ?_
      refine lv_iconst (v := nI 1) hx hb dX5_testGrowth_16 (by decide) ?_
      refine lv_aload hx hb dX5_testGrowth_17 (lv_at hl 0 rfl) ?_
      refine va_getN (D := Y.1) (ci := 2) (v := .int (nI (S.2.1 j3))) (C := RX2) (T := TX2) (N := 3) hx hb hts inX2 hown hK (th_gV hG hj3) 0 rfl rfl 0 (by decide) (va_Nw.use rfl (tn_1_94 hN)) (fun _ h9 => h9) rfl dX5_testGrowth_19 ?_
      refine thx_callS hx hb hml hown hts ⟨hK, hN⟩ hl hS hX (rest := []) (c_X5_requireRange l hl0 Y _ x4 (nI 1) (nI (S.2.1 j3))) ok_X5_requireRange tw_2_8 dX5_testGrowth_22 rfl rfl (Nat.le_of_ble_eq_true rfl) ⟨(Nat.le_of_ble_eq_true rfl), (Nat.le_of_ble_eq_true rfl)⟩ ⟨(Nat.le_of_ble_eq_true rfl), (Nat.le_of_ble_eq_true rfl)⟩ (fun _ h => h.elim) ?_ ?_
      · rintro E9 ce9 q9 H9 locs9 ⟨rfl, hng9⟩ hsm9 hS9 hc9 hv9 hcl9
        refine thx_out hlk hX.2.2 hQ hS9 hc9 hv9 hcl9 (Nat.le_of_ble_eq_true rfl) (Nat.le_of_ble_eq_true rfl) ?_
        have q4 : ¬ th_ir x4 1 (S.2.1 j3 + 1) := fun z9 => hng9 (th_irB (by omega) (by omega) (th_irE z9 (by omega)))
        refine ⟨1, rfl, ?_, th_GWs (th_gkeep hG hsm9) hJ hv⟩
        unfold sp_testGrowth
        simp only [th_qL, th_qG, zj1, zj3]
        rw [th_ifT ⟨q1, q3⟩, th_ifF (fun z9 => q4 z9.1)]
        all_goals rfl
      · skip
        refine th_kpv (fun locs hr9 hS => ?_)
        have q4 : th_ir x4 1 (S.2.1 j3 + 1) := th_irE (th_irO (by omega) (by omega) hr9.1 hr9.2) (by omega)
        have uq9 := q4
        obtain ⟨j4, j4a, j4b, ux9⟩ := uq9
        subst ux9
        have zj4 : th_ix (nI j4) = j4 := th_ixN (by omega)
        refine lv_iload_n hx hb dX5_testGrowth_25 rfl (lv_at hl 4 rfl) ?_
        refine lv_iconst (v := nI 1) hx hb dX5_testGrowth_26 (by decide) ?_
        refine lv_iload hx hb dX5_testGrowth_27 (lv_at hl 6 rfl) ?_
        refine thx_callS hx hb hml hown hts ⟨hK, hN⟩ hl hS hX (rest := []) (c_X5_requireRange l hl0 Y _ x2 (nI 1) (nI j4)) ok_X5_requireRange tw_2_8 dX5_testGrowth_29 rfl rfl (Nat.le_of_ble_eq_true rfl) ⟨(Nat.le_of_ble_eq_true rfl), (Nat.le_of_ble_eq_true rfl)⟩ ⟨(Nat.le_of_ble_eq_true rfl), (Nat.le_of_ble_eq_true rfl)⟩ (fun _ h => h.elim) ?_ ?_
        · rintro E9 ce9 q9 H9 locs9 ⟨rfl, hng9⟩ hsm9 hS9 hc9 hv9 hcl9
          refine thx_out hlk hX.2.2 hQ hS9 hc9 hv9 hcl9 (Nat.le_of_ble_eq_true rfl) (Nat.le_of_ble_eq_true rfl) ?_
          have q2 : ¬ th_ir x2 1 (j4 + 1) := fun z9 => hng9 (th_irB (by omega) (by omega) (th_irE z9 (by omega)))
          refine ⟨1, rfl, ?_, th_GWs (th_gkeep hG hsm9) hJ hv⟩
          unfold sp_testGrowth
          simp only [th_qL, th_qG, zj1, zj3, zj4]
          rw [th_ifT ⟨q1, q3⟩, th_ifF (fun z9 => q2 z9.2.1)]
          all_goals rfl
        · skip
          refine th_kpv (fun locs hr9 hS => ?_)
          have q2 : th_ir x2 1 (j4 + 1) := th_irE (th_irO (by omega) (by omega) hr9.1 hr9.2) (by omega)
          have uq9 := q2
          obtain ⟨j2, j2a, j2b, ux9⟩ := uq9
          subst ux9
          have zj2 : th_ix (nI j2) = j2 := th_ixN (by omega)
          refine lv_iload_n hx hb dX5_testGrowth_32 rfl (lv_at hl 4 rfl) ?_
          refine lv_iconst (v := nI 1) hx hb dX5_testGrowth_33 (by decide) ?_
          refine lv_aload hx hb dX5_testGrowth_34 (lv_at hl 1 rfl) ?_
          refine va_getN (D := Y.1) (ci := 2) (v := .int (nI (S.2.1 j1))) (C := RX2) (T := TX2) (N := 3) hx hb hts inX2 hown hK (th_gV hG hj1) 0 rfl rfl 0 (by decide) (va_Nw.use rfl (tn_1_94 hN)) (fun _ h9 => h9) rfl dX5_testGrowth_36 ?_
          refine thx_callS hx hb hml hown hts ⟨hK, hN⟩ hl hS hX (rest := []) (c_X5_requireRange l hl0 Y _ (nI j2) (nI 1) (nI (S.2.1 j1))) ok_X5_requireRange tw_2_8 dX5_testGrowth_39 rfl rfl (Nat.le_of_ble_eq_true rfl) ⟨(Nat.le_of_ble_eq_true rfl), (Nat.le_of_ble_eq_true rfl)⟩ ⟨(Nat.le_of_ble_eq_true rfl), (Nat.le_of_ble_eq_true rfl)⟩ (fun _ h => h.elim) ?_ ?_
          · rintro E9 ce9 q9 H9 locs9 ⟨rfl, hng9⟩ hsm9 hS9 hc9 hv9 hcl9
            refine thx_out hlk hX.2.2 hQ hS9 hc9 hv9 hcl9 (Nat.le_of_ble_eq_true rfl) (Nat.le_of_ble_eq_true rfl) ?_
            have q5 : ¬ th_ir (nI j2) 1 (S.2.1 j1 + 1) := fun z9 => hng9 (th_irB (by omega) (by omega) (th_irE z9 (by omega)))
            refine ⟨1, rfl, ?_, th_GWs (th_gkeep hG hsm9) hJ hv⟩
            unfold sp_testGrowth
            simp only [th_qL, th_qG, zj1, zj3, zj4, zj2]
            rw [th_ifT ⟨q1, q3⟩, th_ifF (fun z9 => q5 z9.2.2)]
            all_goals rfl
          · skip
            refine th_kpv (fun locs hr9 hS => ?_)
            have q5 : th_ir (nI j2) 1 (S.2.1 j1 + 1) := th_irE (th_irO (by omega) (by omega) hr9.1 hr9.2) (by omega)
            obtain ⟨ua9, ub9⟩ := th_irI (by omega) (by omega) q5
            refine lv_aload_n hx hb dX5_testGrowth_42 rfl (lv_at hl 2 rfl) ?_
            refine va_get (D := Y.1) (ci := 5) (v := .ref (ad 3)) (C := RX5) (T := TX5) (N := 5) hx hb hts inX5 hown hK (th_gO hG) 0 rfl rfl 2 (by decide) (hts _ tw_1_135) (fun _ h9 => h9) rfl dX5_testGrowth_43 ?_
            refine lv_iload_n hx hb dX5_testGrowth_46 rfl (lv_at hl 4 rfl) ?_
            refine lv_aload hx hb dX5_testGrowth_47 (lv_at hl 1 rfl) ?_
            refine lv_iload_n hx hb dX5_testGrowth_49 rfl (lv_at hl 4 rfl) ?_
            refine th_callV hx hb hml hown hts ⟨hK, hN⟩ hl hS ((th_gV hG hj1) 0 _ rfl) rfl (rest := [.int (nI j2), .ref (ad 3)]) (c_X2_rootAt l Y _ (ad (16 + 3 * j1)) (ad (16 + 3 * j1 + 1)) (ad (16 + 3 * j1 + 2)) (S.2.1 j1) (Vx j1) (B j1) (th_gV hG hj1) j2 hnj1 (by omega) hBj1) ok_X2_rootAt tw_2_103 dX5_testGrowth_50 rfl rfl (Nat.le_of_ble_eq_true rfl) ⟨Nat.le_of_ble_eq_true rfl, Nat.le_of_ble_eq_true rfl⟩ ⟨Nat.le_of_ble_eq_true rfl, Nat.le_of_ble_eq_true rfl⟩ (fun _ h => h.elim) (th_kpi (fun locs hS => ?_))
            refine th_ti (th_rtE hv hj1 (by omega)) ?_
            refine lv_iload hx hb dX5_testGrowth_53 (lv_at hl 6 rfl) ?_
            refine lv_aload hx hb dX5_testGrowth_55 (lv_at hl 0 rfl) ?_
            refine lv_iload hx hb dX5_testGrowth_57 (lv_at hl 6 rfl) ?_
            refine th_callV hx hb hml hown hts ⟨hK, hN⟩ hl hS ((th_gV hG hj3) 0 _ rfl) rfl (rest := [.int (nI j4), .int (th_rt (S.2.2.1 j1) 0 j2), .int (nI j2), .ref (ad 3)]) (c_X2_rootAt l Y _ (ad (16 + 3 * j3)) (ad (16 + 3 * j3 + 1)) (ad (16 + 3 * j3 + 2)) (S.2.1 j3) (Vx j3) (B j3) (th_gV hG hj3) j4 hnj3 (by omega) hBj3) ok_X2_rootAt tw_2_103 dX5_testGrowth_59 rfl rfl (Nat.le_of_ble_eq_true rfl) ⟨Nat.le_of_ble_eq_true rfl, Nat.le_of_ble_eq_true rfl⟩ ⟨Nat.le_of_ble_eq_true rfl, Nat.le_of_ble_eq_true rfl⟩ (fun _ h => h.elim) (th_kpi (fun locs hS => ?_))
            refine th_ti (th_rtE hv hj3 (by omega)) ?_
            refine th_callV hx hb hml hown hts ⟨hK, hN⟩ hl hS ((th_gDk hG) 0 _ rfl) rfl (rest := []) (c_X0_provesGrowth l Y _ (ad 3) (ad 4) (ad 5) (S.2.2.2.1) dsx (ad 6) (ad 7) (ad 8) (wy 0) (wy 1) (wy 2) (wy 3) (wz 0) (wz 1) (wz 2) (th_gDk hG) (th_gD hJ [3, 4, 5, 6, 7, 8] (fun k9 hk9 => by simp only [List.mem_cons, List.not_mem_nil, or_false] at hk9; omega) th_ndD rfl) hv.2.2.1 (th_rt (S.2.2.1 j1) 0 j2) (th_rt (S.2.2.1 j3) 0 j4) j2 j4 (by omega) (by omega) (by omega)) ok_X0_provesGrowth tw_3_26 dX5_testGrowth_62 rfl rfl (Nat.le_of_ble_eq_true rfl) ⟨Nat.le_of_ble_eq_true rfl, Nat.le_of_ble_eq_true rfl⟩ ⟨Nat.le_of_ble_eq_true rfl, Nat.le_of_ble_eq_true rfl⟩ (th_gAm (ad := ad) [3, 4, 5, 6, 7, 8] (fun k9 hk9 => by simp only [List.mem_cons, List.not_mem_nil, or_false] at hk9; omega)) (th_ki (fun r9 H locs hp hsm hS => ?_))
            obtain ⟨hr9, r1, F1, N1, T1, fr1, le1, fi1, hPc⟩ := hp
            subst hr9
            have hG := th_guD hG hJ hsm hPc
            refine th_ti (th_bE (th_aGE (fun j9 hj9 => hv.2.2.2.1 j9 hj9) (th_gR1 _))) ?_
            refine thx_zret hx hb hr hlk hQ hS dX5_testGrowth_65 (Nat.le_of_ble_eq_true rfl) (Nat.le_of_ble_eq_true rfl) (by first | exact Or.inl rfl | exact Or.inr rfl | exact th_b01 _ | assumption) ?_
            refine ⟨_, rfl, ?_⟩
            unfold sp_testGrowth
            simp only [th_qL, th_qG, zj1, zj3, zj4, zj2]
            rw [th_ifT ⟨q1, q3⟩, th_ifT ⟨q4, q2, q5⟩]
            exact ⟨rfl, rfl, th_GWs hG hJ hv⟩

set_option maxRecDepth 100000 in
set_option maxHeartbeats 4000000 in
theorem c_X5_testKey (l : Launch) (hl0 : l.stackTraces = false) (Y : th_Y) (H0 : Heap) (ad : Nat → Nat) (S : th_S) (Vx B : Nat → Nat → Int32) (dsx kvx ks : Nat → Int32) (wy : Nat → Nat) (wz : Nat → Nat → Int32) (hI : th_I Y ad S Vx B dsx kvx ks wy wz H0) (x1 x2 : Int32) : th_MX l Y yX5_testKey cX5_testKey 3 (some .boolean) (th_rm 6 8 400) [.ref (ad 0), .int x1, .int x2] H0 (th_gA ad S.1 H0.size) (th_po Y (ad 0) (th_gA ad S.1 H0.size) (sp_testKey S x1 x2)) (th_px Y ["java/lang/IllegalArgumentException"] (ad 0) (th_gA ad S.1 H0.size) S (sp_testKey S x1 x2)) := by
  refine th_MX.intro (by decide) (Nat.le_of_ble_eq_true rfl) ?_
  intro p e s m args below meth c ls Q hQ C hKN hl hS hX
  obtain ⟨hx, hb, hr, hml, hown, hts, hlk, hnm⟩ := C
  obtain ⟨hK, hN⟩ := hKN
  have hown : s.vm.findClass RX5 = some m.cls := hown
  have hl : lv_has ls 3 [(0, .ref (ad 0)), (1, .int x1), (2, .int x2)] := hl
  obtain ⟨hG, hJ, hv⟩ := hI
  have hv1 := hv.1
  have hv12 := hv.2.2.1
  refine lv_iload_n hx hb dX5_testKey_0 rfl (lv_at hl 1 rfl) ?_
  refine lv_iconst (v := nI 0) hx hb dX5_testKey_1 (by decide) ?_
  refine lv_bipush (v := nI 63) hx hb dX5_testKey_2 (by decide) ?_
  refine thx_callS hx hb hml hown hts ⟨hK, hN⟩ hl hS hX (rest := []) (c_X5_requireRange l hl0 Y _ x1 (nI 0) (nI 63)) ok_X5_requireRange tw_2_8 dX5_testKey_4 rfl rfl (Nat.le_of_ble_eq_true rfl) ⟨(Nat.le_of_ble_eq_true rfl), (Nat.le_of_ble_eq_true rfl)⟩ ⟨(Nat.le_of_ble_eq_true rfl), (Nat.le_of_ble_eq_true rfl)⟩ (fun _ h => h.elim) ?_ ?_
  · rintro E9 ce9 q9 H9 locs9 ⟨rfl, hng9⟩ hsm9 hS9 hc9 hv9 hcl9
    refine thx_out hlk hX.2.2 hQ hS9 hc9 hv9 hcl9 (Nat.le_of_ble_eq_true rfl) (Nat.le_of_ble_eq_true rfl) ?_
    have q1 : ¬ th_ir x1 0 64 := fun z9 => hng9 (th_irB (by omega) (by omega) (th_irE z9 (by omega)))
    refine ⟨0, rfl, ?_, th_GWs (th_gkeep hG hsm9) hJ hv⟩
    unfold sp_testKey
    rw [th_ifF (fun z9 => q1 z9.1)]
    all_goals rfl
  · skip
    refine th_kpv (fun locs hr9 hS => ?_)
    have q1 : th_ir x1 0 64 := th_irE (th_irO (by omega) (by omega) hr9.1 hr9.2) (by omega)
    have uq9 := q1
    obtain ⟨j1, j1a, j1b, ux9⟩ := uq9
    subst ux9
    have zj1 : th_ix (nI j1) = j1 := th_ixN (by omega)
    refine lv_iload_n hx hb dX5_testKey_7 rfl (lv_at hl 2 rfl) ?_
    refine lv_iconst (v := -1) hx hb dX5_testKey_8 (by decide) ?_
    refine lv_icmp_eq (tgt := 19) hx hb dX5_testKey_9 (by decide) (fun c_1 => ?_) (fun c_1 => ?_)
    · skip
      have q2 : x2 = -1 ∨ th_ir x2 0 65536 := Or.inl c_1
      refine lv_aload_n hx hb dX5_testKey_19 rfl (lv_at hl 0 rfl) ?_
      refine va_get (D := Y.1) (ci := 5) (v := .ref (ad 3)) (C := RX5) (T := TX5) (N := 5) hx hb hts inX5 hown hK (th_gO hG) 0 rfl rfl 2 (by decide) (hts _ tw_1_135) (fun _ h9 => h9) rfl dX5_testKey_20 ?_
      refine lv_iload_n hx hb dX5_testKey_23 rfl (lv_at hl 1 rfl) ?_
      refine lv_iload_n hx hb dX5_testKey_24 rfl (lv_at hl 2 rfl) ?_
      refine lv_aload_n hx hb dX5_testKey_25 rfl (lv_at hl 0 rfl) ?_
      refine va_get (D := Y.1) (ci := 5) (v := .ref (ad 9)) (C := RX5) (T := TX5) (N := 5) hx hb hts inX5 hown hK (th_gO hG) 0 rfl rfl 3 (by decide) (hts _ tw_1_136) (fun _ h9 => h9) rfl dX5_testKey_26 ?_
      refine th_callV hx hb hml hown hts ⟨hK, hN⟩ hl hS ((th_gMp hG) 0 _ rfl) rfl (rest := [.int x2, .int (nI j1), .ref (ad 3)]) (c_X1_rootSum l Y _ (ad 9) (ad 10) (ad 11) kvx ks (th_gMp hG) hv.2.2.2.2.1) ok_X1_rootSum tw_1_161 dX5_testKey_29 rfl rfl (Nat.le_of_ble_eq_true rfl) ⟨Nat.le_of_ble_eq_true rfl, Nat.le_of_ble_eq_true rfl⟩ ⟨Nat.le_of_ble_eq_true rfl, Nat.le_of_ble_eq_true rfl⟩ (fun _ h => h.elim) (th_kpi (fun locs hS => ?_))
      refine th_ti (th_lvE hv.2.2.2.2.2.1 6 0 (by decide) (by decide)) ?_
      refine th_callV hx hb hml hown hts ⟨hK, hN⟩ hl hS ((th_gDk hG) 0 _ rfl) rfl (rest := []) (c_X0_provesKey l Y _ (ad 3) (ad 4) (ad 5) (S.2.2.2.1) dsx (th_gE hG) hv.2.2.1 j1 x2 (th_lv S.2.2.2.2.2.1 6 0) (by omega)) ok_X0_provesKey tw_3_38 dX5_testKey_32 rfl rfl (Nat.le_of_ble_eq_true rfl) ⟨Nat.le_of_ble_eq_true rfl, Nat.le_of_ble_eq_true rfl⟩ ⟨Nat.le_of_ble_eq_true rfl, Nat.le_of_ble_eq_true rfl⟩ (fun _ h => h.elim) (th_kpi (fun locs hS => ?_))
      refine th_ti (th_bE (and_congr_right (fun e9 => by rw [th_kfE 6 (fun j9 hj9 => hv.2.2.2.1 j9 (by omega))]))) ?_
      refine thx_zret hx hb hr hlk hQ hS dX5_testKey_35 (Nat.le_of_ble_eq_true rfl) (Nat.le_of_ble_eq_true rfl) (by first | exact Or.inl rfl | exact Or.inr rfl | exact th_b01 _ | assumption) ?_
      refine ⟨_, rfl, ?_⟩
      unfold sp_testKey
      simp only [zj1]
      rw [th_ifT ⟨q1, q2⟩]
      exact ⟨rfl, rfl, th_GWs hG hJ hv⟩
    refine lv_iload_n hx hb dX5_testKey_12 rfl (lv_at hl 2 rfl) ?_
    refine lv_iconst (v := nI 0) hx hb dX5_testKey_13 (by decide) ?_
    refine lv_ldc hx hb hown (hts _ tw_2_7) dX5_testKey_14 ?_
    refine th_ti (show (65535 : Int32) = nI 65535 from rfl) ?_
    refine thx_callS hx hb hml hown hts ⟨hK, hN⟩ hl hS hX (rest := []) (c_X5_requireRange l hl0 Y _ x2 (nI 0) (nI 65535)) ok_X5_requireRange tw_2_8 dX5_testKey_16 rfl rfl (Nat.le_of_ble_eq_true rfl) ⟨(Nat.le_of_ble_eq_true rfl), (Nat.le_of_ble_eq_true rfl)⟩ ⟨(Nat.le_of_ble_eq_true rfl), (Nat.le_of_ble_eq_true rfl)⟩ (fun _ h => h.elim) ?_ ?_
    · rintro E9 ce9 q9 H9 locs9 ⟨rfl, hng9⟩ hsm9 hS9 hc9 hv9 hcl9
      refine thx_out hlk hX.2.2 hQ hS9 hc9 hv9 hcl9 (Nat.le_of_ble_eq_true rfl) (Nat.le_of_ble_eq_true rfl) ?_
      have q2 : ¬ (x2 = -1 ∨ th_ir x2 0 65536) := fun z9 => z9.elim c_1 (fun z8 => hng9 (th_irB (by omega) (by omega) (th_irE z8 (by omega))))
      refine ⟨0, rfl, ?_, th_GWs (th_gkeep hG hsm9) hJ hv⟩
      unfold sp_testKey
      simp only [zj1]
      rw [th_ifF (fun z9 => q2 z9.2)]
      all_goals rfl
    · skip
      refine th_kpv (fun locs hr9 hS => ?_)
      have q2c : th_ir x2 0 65536 := th_irE (th_irO (by omega) (by omega) hr9.1 hr9.2) (by omega)
      have q2 : x2 = -1 ∨ th_ir x2 0 65536 := Or.inr q2c
      refine lv_aload_n hx hb dX5_testKey_19 rfl (lv_at hl 0 rfl) ?_
      refine va_get (D := Y.1) (ci := 5) (v := .ref (ad 3)) (C := RX5) (T := TX5) (N := 5) hx hb hts inX5 hown hK (th_gO hG) 0 rfl rfl 2 (by decide) (hts _ tw_1_135) (fun _ h9 => h9) rfl dX5_testKey_20 ?_
      refine lv_iload_n hx hb dX5_testKey_23 rfl (lv_at hl 1 rfl) ?_
      refine lv_iload_n hx hb dX5_testKey_24 rfl (lv_at hl 2 rfl) ?_
      refine lv_aload_n hx hb dX5_testKey_25 rfl (lv_at hl 0 rfl) ?_
      refine va_get (D := Y.1) (ci := 5) (v := .ref (ad 9)) (C := RX5) (T := TX5) (N := 5) hx hb hts inX5 hown hK (th_gO hG) 0 rfl rfl 3 (by decide) (hts _ tw_1_136) (fun _ h9 => h9) rfl dX5_testKey_26 ?_
      refine th_callV hx hb hml hown hts ⟨hK, hN⟩ hl hS ((th_gMp hG) 0 _ rfl) rfl (rest := [.int x2, .int (nI j1), .ref (ad 3)]) (c_X1_rootSum l Y _ (ad 9) (ad 10) (ad 11) kvx ks (th_gMp hG) hv.2.2.2.2.1) ok_X1_rootSum tw_1_161 dX5_testKey_29 rfl rfl (Nat.le_of_ble_eq_true rfl) ⟨Nat.le_of_ble_eq_true rfl, Nat.le_of_ble_eq_true rfl⟩ ⟨Nat.le_of_ble_eq_true rfl, Nat.le_of_ble_eq_true rfl⟩ (fun _ h => h.elim) (th_kpi (fun locs hS => ?_))
      refine th_ti (th_lvE hv.2.2.2.2.2.1 6 0 (by decide) (by decide)) ?_
      refine th_callV hx hb hml hown hts ⟨hK, hN⟩ hl hS ((th_gDk hG) 0 _ rfl) rfl (rest := []) (c_X0_provesKey l Y _ (ad 3) (ad 4) (ad 5) (S.2.2.2.1) dsx (th_gE hG) hv.2.2.1 j1 x2 (th_lv S.2.2.2.2.2.1 6 0) (by omega)) ok_X0_provesKey tw_3_38 dX5_testKey_32 rfl rfl (Nat.le_of_ble_eq_true rfl) ⟨Nat.le_of_ble_eq_true rfl, Nat.le_of_ble_eq_true rfl⟩ ⟨Nat.le_of_ble_eq_true rfl, Nat.le_of_ble_eq_true rfl⟩ (fun _ h => h.elim) (th_kpi (fun locs hS => ?_))
      refine th_ti (th_bE (and_congr_right (fun e9 => by rw [th_kfE 6 (fun j9 hj9 => hv.2.2.2.1 j9 (by omega))]))) ?_
      refine thx_zret hx hb hr hlk hQ hS dX5_testKey_35 (Nat.le_of_ble_eq_true rfl) (Nat.le_of_ble_eq_true rfl) (by first | exact Or.inl rfl | exact Or.inr rfl | exact th_b01 _ | assumption) ?_
      refine ⟨_, rfl, ?_⟩
      unfold sp_testKey
      simp only [zj1]
      rw [th_ifT ⟨q1, q2⟩]
      exact ⟨rfl, rfl, th_GWs hG hJ hv⟩

set_option maxRecDepth 100000 in
set_option maxHeartbeats 4000000 in
theorem c_X5_put (l : Launch) (hl0 : l.stackTraces = false) (Y : th_Y) (H0 : Heap) (ad : Nat → Nat) (S : th_S) (Vx B : Nat → Nat → Int32) (dsx kvx ks : Nat → Int32) (wy : Nat → Nat) (wz : Nat → Nat → Int32) (hI : th_I Y ad S Vx B dsx kvx ks wy wz H0) (x1 x2 : Int32) : th_MX l Y yX5_put cX5_put 3 (some .int) (th_rm 6 8 400) [.ref (ad 0), .int x1, .int x2] H0 (th_gA ad S.1 H0.size) (th_po Y (ad 0) (th_gA ad S.1 H0.size) (sp_put S x1 x2)) (th_px Y ["java/lang/IllegalArgumentException"] (ad 0) (th_gA ad S.1 H0.size) S (sp_put S x1 x2)) := by
  refine th_MX.intro (by decide) (Nat.le_of_ble_eq_true rfl) ?_
  intro p e s m args below meth c ls Q hQ C hKN hl hS hX
  obtain ⟨hx, hb, hr, hml, hown, hts, hlk, hnm⟩ := C
  obtain ⟨hK, hN⟩ := hKN
  have hown : s.vm.findClass RX5 = some m.cls := hown
  have hl : lv_has ls 3 [(0, .ref (ad 0)), (1, .int x1), (2, .int x2)] := hl
  obtain ⟨hG, hJ, hv⟩ := hI
  have hv1 := hv.1
  have hv12 := hv.2.2.1
  refine lv_iload_n hx hb dX5_put_0 rfl (lv_at hl 1 rfl) ?_
  refine lv_iconst (v := nI 0) hx hb dX5_put_1 (by decide) ?_
  refine lv_bipush (v := nI 63) hx hb dX5_put_2 (by decide) ?_
  refine thx_callS hx hb hml hown hts ⟨hK, hN⟩ hl hS hX (rest := []) (c_X5_requireRange l hl0 Y _ x1 (nI 0) (nI 63)) ok_X5_requireRange tw_2_8 dX5_put_4 rfl rfl (Nat.le_of_ble_eq_true rfl) ⟨(Nat.le_of_ble_eq_true rfl), (Nat.le_of_ble_eq_true rfl)⟩ ⟨(Nat.le_of_ble_eq_true rfl), (Nat.le_of_ble_eq_true rfl)⟩ (fun _ h => h.elim) ?_ ?_
  · rintro E9 ce9 q9 H9 locs9 ⟨rfl, hng9⟩ hsm9 hS9 hc9 hv9 hcl9
    refine thx_out hlk hX.2.2 hQ hS9 hc9 hv9 hcl9 (Nat.le_of_ble_eq_true rfl) (Nat.le_of_ble_eq_true rfl) ?_
    have q1 : ¬ th_ir x1 0 64 := fun z9 => hng9 (th_irB (by omega) (by omega) (th_irE z9 (by omega)))
    refine ⟨0, rfl, ?_, th_GWs (th_gkeep hG hsm9) hJ hv⟩
    unfold sp_put
    rw [th_ifF (fun z9 => q1 z9.1)]
    all_goals rfl
  · skip
    refine th_kpv (fun locs hr9 hS => ?_)
    have q1 : th_ir x1 0 64 := th_irE (th_irO (by omega) (by omega) hr9.1 hr9.2) (by omega)
    have uq9 := q1
    obtain ⟨j1, j1a, j1b, ux9⟩ := uq9
    subst ux9
    have zj1 : th_ix (nI j1) = j1 := th_ixN (by omega)
    refine lv_iload_n hx hb dX5_put_7 rfl (lv_at hl 2 rfl) ?_
    refine lv_iconst (v := nI 0) hx hb dX5_put_8 (by decide) ?_
    refine lv_ldc hx hb hown (hts _ tw_2_7) dX5_put_9 ?_
    refine th_ti (show (65535 : Int32) = nI 65535 from rfl) ?_
    refine thx_callS hx hb hml hown hts ⟨hK, hN⟩ hl hS hX (rest := []) (c_X5_requireRange l hl0 Y _ x2 (nI 0) (nI 65535)) ok_X5_requireRange tw_2_8 dX5_put_11 rfl rfl (Nat.le_of_ble_eq_true rfl) ⟨(Nat.le_of_ble_eq_true rfl), (Nat.le_of_ble_eq_true rfl)⟩ ⟨(Nat.le_of_ble_eq_true rfl), (Nat.le_of_ble_eq_true rfl)⟩ (fun _ h => h.elim) ?_ ?_
    · rintro E9 ce9 q9 H9 locs9 ⟨rfl, hng9⟩ hsm9 hS9 hc9 hv9 hcl9
      refine thx_out hlk hX.2.2 hQ hS9 hc9 hv9 hcl9 (Nat.le_of_ble_eq_true rfl) (Nat.le_of_ble_eq_true rfl) ?_
      have q2 : ¬ th_ir x2 0 65536 := fun z9 => hng9 (th_irB (by omega) (by omega) (th_irE z9 (by omega)))
      refine ⟨0, rfl, ?_, th_GWs (th_gkeep hG hsm9) hJ hv⟩
      unfold sp_put
      simp only [zj1]
      rw [th_ifF (fun z9 => q2 z9.2)]
      all_goals rfl
    · skip
      refine th_kpv (fun locs hr9 hS => ?_)
      have q2 : th_ir x2 0 65536 := th_irE (th_irO (by omega) (by omega) hr9.1 hr9.2) (by omega)
      have uq9 := q2
      obtain ⟨j2, j2a, j2b, ux9⟩ := uq9
      subst ux9
      have zj2 : th_ix (nI j2) = j2 := th_ixN (by omega)
      refine lv_aload_n hx hb dX5_put_14 rfl (lv_at hl 0 rfl) ?_
      refine va_get (D := Y.1) (ci := 5) (v := .ref (ad 9)) (C := RX5) (T := TX5) (N := 5) hx hb hts inX5 hown hK (th_gO hG) 0 rfl rfl 3 (by decide) (hts _ tw_1_136) (fun _ h9 => h9) rfl dX5_put_15 ?_
      refine lv_iload_n hx hb dX5_put_18 rfl (lv_at hl 1 rfl) ?_
      refine lv_iload_n hx hb dX5_put_19 rfl (lv_at hl 2 rfl) ?_
      refine th_callV hx hb hml hown hts ⟨hK, hN⟩ hl hS ((th_gMp hG) 0 _ rfl) rfl (rest := []) (c_X1_replace l Y _ (ad 9) (ad 10) (ad 11) kvx ks (th_gMp hG) (th_gD hJ [9, 10, 11] (fun k9 hk9 => by simp only [List.mem_cons, List.not_mem_nil, or_false] at hk9; omega) th_ndM rfl) hv.2.2.2.2.1 j1 (nI j2) (by omega)) ok_X1_replace tw_3_57 dX5_put_20 rfl rfl (Nat.le_of_ble_eq_true rfl) ⟨Nat.le_of_ble_eq_true rfl, Nat.le_of_ble_eq_true rfl⟩ ⟨Nat.le_of_ble_eq_true rfl, Nat.le_of_ble_eq_true rfl⟩ (th_gAm (ad := ad) [9, 10, 11] (fun k9 hk9 => by simp only [List.mem_cons, List.not_mem_nil, or_false] at hk9; omega)) (th_ki (fun r9 H locs hp hsm hS => ?_))
      obtain ⟨hr9, ks9, hPc, hM9⟩ := hp
      subst hr9
      have hG := th_guM hG hJ hsm hPc
      refine th_ti (hv.2.2.2.2.2.1 _ (by omega)) ?_
      refine thx_iret hx hb hr hlk hQ hS dX5_put_23 (Nat.le_of_ble_eq_true rfl) (Nat.le_of_ble_eq_true rfl) ?_
      refine ⟨_, rfl, ?_⟩
      unfold sp_put
      simp only [zj1, zj2]
      rw [th_ifT ⟨q1, q2⟩]
      exact ⟨rfl, rfl, th_GWM hG hJ hv hM9 (th_updE (fun j9 hj9 _ => hv.2.2.2.2.2.1 j9 hj9))⟩

set_option maxRecDepth 100000 in
set_option maxHeartbeats 4000000 in
theorem c_X5_remove (l : Launch) (hl0 : l.stackTraces = false) (Y : th_Y) (H0 : Heap) (ad : Nat → Nat) (S : th_S) (Vx B : Nat → Nat → Int32) (dsx kvx ks : Nat → Int32) (wy : Nat → Nat) (wz : Nat → Nat → Int32) (hI : th_I Y ad S Vx B dsx kvx ks wy wz H0) (x1 : Int32) : th_MX l Y yX5_remove cX5_remove 2 (some .int) (th_rm 6 8 400) [.ref (ad 0), .int x1] H0 (th_gA ad S.1 H0.size) (th_po Y (ad 0) (th_gA ad S.1 H0.size) (sp_remove S x1)) (th_px Y ["java/lang/IllegalArgumentException"] (ad 0) (th_gA ad S.1 H0.size) S (sp_remove S x1)) := by
  refine th_MX.intro (by decide) (Nat.le_of_ble_eq_true rfl) ?_
  intro p e s m args below meth c ls Q hQ C hKN hl hS hX
  obtain ⟨hx, hb, hr, hml, hown, hts, hlk, hnm⟩ := C
  obtain ⟨hK, hN⟩ := hKN
  have hown : s.vm.findClass RX5 = some m.cls := hown
  have hl : lv_has ls 2 [(0, .ref (ad 0)), (1, .int x1)] := hl
  obtain ⟨hG, hJ, hv⟩ := hI
  have hv1 := hv.1
  have hv12 := hv.2.2.1
  refine lv_iload_n hx hb dX5_remove_0 rfl (lv_at hl 1 rfl) ?_
  refine lv_iconst (v := nI 0) hx hb dX5_remove_1 (by decide) ?_
  refine lv_bipush (v := nI 63) hx hb dX5_remove_2 (by decide) ?_
  refine thx_callS hx hb hml hown hts ⟨hK, hN⟩ hl hS hX (rest := []) (c_X5_requireRange l hl0 Y _ x1 (nI 0) (nI 63)) ok_X5_requireRange tw_2_8 dX5_remove_4 rfl rfl (Nat.le_of_ble_eq_true rfl) ⟨(Nat.le_of_ble_eq_true rfl), (Nat.le_of_ble_eq_true rfl)⟩ ⟨(Nat.le_of_ble_eq_true rfl), (Nat.le_of_ble_eq_true rfl)⟩ (fun _ h => h.elim) ?_ ?_
  · rintro E9 ce9 q9 H9 locs9 ⟨rfl, hng9⟩ hsm9 hS9 hc9 hv9 hcl9
    refine thx_out hlk hX.2.2 hQ hS9 hc9 hv9 hcl9 (Nat.le_of_ble_eq_true rfl) (Nat.le_of_ble_eq_true rfl) ?_
    have q1 : ¬ th_ir x1 0 64 := fun z9 => hng9 (th_irB (by omega) (by omega) (th_irE z9 (by omega)))
    refine ⟨0, rfl, ?_, th_GWs (th_gkeep hG hsm9) hJ hv⟩
    unfold sp_remove
    rw [th_ifF (fun z9 => q1 z9)]
    all_goals rfl
  · skip
    refine th_kpv (fun locs hr9 hS => ?_)
    have q1 : th_ir x1 0 64 := th_irE (th_irO (by omega) (by omega) hr9.1 hr9.2) (by omega)
    have uq9 := q1
    obtain ⟨j1, j1a, j1b, ux9⟩ := uq9
    subst ux9
    have zj1 : th_ix (nI j1) = j1 := th_ixN (by omega)
    refine lv_aload_n hx hb dX5_remove_7 rfl (lv_at hl 0 rfl) ?_
    refine va_get (D := Y.1) (ci := 5) (v := .ref (ad 9)) (C := RX5) (T := TX5) (N := 5) hx hb hts inX5 hown hK (th_gO hG) 0 rfl rfl 3 (by decide) (hts _ tw_1_136) (fun _ h9 => h9) rfl dX5_remove_8 ?_
    refine lv_iload_n hx hb dX5_remove_11 rfl (lv_at hl 1 rfl) ?_
    refine lv_iconst (v := -1) hx hb dX5_remove_12 (by decide) ?_
    refine th_callV hx hb hml hown hts ⟨hK, hN⟩ hl hS ((th_gMp hG) 0 _ rfl) rfl (rest := []) (c_X1_replace l Y _ (ad 9) (ad 10) (ad 11) kvx ks (th_gMp hG) (th_gD hJ [9, 10, 11] (fun k9 hk9 => by simp only [List.mem_cons, List.not_mem_nil, or_false] at hk9; omega) th_ndM rfl) hv.2.2.2.2.1 j1 (-1) (by omega)) ok_X1_replace tw_3_57 dX5_remove_13 rfl rfl (Nat.le_of_ble_eq_true rfl) ⟨Nat.le_of_ble_eq_true rfl, Nat.le_of_ble_eq_true rfl⟩ ⟨Nat.le_of_ble_eq_true rfl, Nat.le_of_ble_eq_true rfl⟩ (th_gAm (ad := ad) [9, 10, 11] (fun k9 hk9 => by simp only [List.mem_cons, List.not_mem_nil, or_false] at hk9; omega)) (th_ki (fun r9 H locs hp hsm hS => ?_))
    obtain ⟨hr9, ks9, hPc, hM9⟩ := hp
    subst hr9
    have hG := th_guM hG hJ hsm hPc
    refine th_ti (hv.2.2.2.2.2.1 _ (by omega)) ?_
    refine thx_iret hx hb hr hlk hQ hS dX5_remove_16 (Nat.le_of_ble_eq_true rfl) (Nat.le_of_ble_eq_true rfl) ?_
    refine ⟨_, rfl, ?_⟩
    unfold sp_remove
    simp only [zj1]
    rw [th_ifT q1]
    exact ⟨rfl, rfl, th_GWM hG hJ hv hM9 (th_updE (fun j9 hj9 _ => hv.2.2.2.2.2.1 j9 hj9))⟩

set_option maxRecDepth 100000 in
set_option maxHeartbeats 4000000 in
theorem c_X5_get (l : Launch) (hl0 : l.stackTraces = false) (Y : th_Y) (H0 : Heap) (ad : Nat → Nat) (S : th_S) (Vx B : Nat → Nat → Int32) (dsx kvx ks : Nat → Int32) (wy : Nat → Nat) (wz : Nat → Nat → Int32) (hI : th_I Y ad S Vx B dsx kvx ks wy wz H0) (x1 : Int32) : th_MX l Y yX5_get cX5_get 2 (some .int) (th_rm 6 8 400) [.ref (ad 0), .int x1] H0 (th_gA ad S.1 H0.size) (th_po Y (ad 0) (th_gA ad S.1 H0.size) (sp_get S x1)) (th_px Y ["java/lang/IllegalArgumentException"] (ad 0) (th_gA ad S.1 H0.size) S (sp_get S x1)) := by
  refine th_MX.intro (by decide) (Nat.le_of_ble_eq_true rfl) ?_
  intro p e s m args below meth c ls Q hQ C hKN hl hS hX
  obtain ⟨hx, hb, hr, hml, hown, hts, hlk, hnm⟩ := C
  obtain ⟨hK, hN⟩ := hKN
  have hown : s.vm.findClass RX5 = some m.cls := hown
  have hl : lv_has ls 2 [(0, .ref (ad 0)), (1, .int x1)] := hl
  obtain ⟨hG, hJ, hv⟩ := hI
  have hv1 := hv.1
  have hv12 := hv.2.2.1
  refine lv_iload_n hx hb dX5_get_0 rfl (lv_at hl 1 rfl) ?_
  refine lv_iconst (v := nI 0) hx hb dX5_get_1 (by decide) ?_
  refine lv_bipush (v := nI 63) hx hb dX5_get_2 (by decide) ?_
  refine thx_callS hx hb hml hown hts ⟨hK, hN⟩ hl hS hX (rest := []) (c_X5_requireRange l hl0 Y _ x1 (nI 0) (nI 63)) ok_X5_requireRange tw_2_8 dX5_get_4 rfl rfl (Nat.le_of_ble_eq_true rfl) ⟨(Nat.le_of_ble_eq_true rfl), (Nat.le_of_ble_eq_true rfl)⟩ ⟨(Nat.le_of_ble_eq_true rfl), (Nat.le_of_ble_eq_true rfl)⟩ (fun _ h => h.elim) ?_ ?_
  · rintro E9 ce9 q9 H9 locs9 ⟨rfl, hng9⟩ hsm9 hS9 hc9 hv9 hcl9
    refine thx_out hlk hX.2.2 hQ hS9 hc9 hv9 hcl9 (Nat.le_of_ble_eq_true rfl) (Nat.le_of_ble_eq_true rfl) ?_
    have q1 : ¬ th_ir x1 0 64 := fun z9 => hng9 (th_irB (by omega) (by omega) (th_irE z9 (by omega)))
    refine ⟨0, rfl, ?_, th_GWs (th_gkeep hG hsm9) hJ hv⟩
    unfold sp_get
    rw [th_ifF (fun z9 => q1 z9)]
    all_goals rfl
  · skip
    refine th_kpv (fun locs hr9 hS => ?_)
    have q1 : th_ir x1 0 64 := th_irE (th_irO (by omega) (by omega) hr9.1 hr9.2) (by omega)
    have uq9 := q1
    obtain ⟨j1, j1a, j1b, ux9⟩ := uq9
    subst ux9
    have zj1 : th_ix (nI j1) = j1 := th_ixN (by omega)
    refine lv_aload_n hx hb dX5_get_7 rfl (lv_at hl 0 rfl) ?_
    refine va_get (D := Y.1) (ci := 5) (v := .ref (ad 9)) (C := RX5) (T := TX5) (N := 5) hx hb hts inX5 hown hK (th_gO hG) 0 rfl rfl 3 (by decide) (hts _ tw_1_136) (fun _ h9 => h9) rfl dX5_get_8 ?_
    refine lv_iload_n hx hb dX5_get_11 rfl (lv_at hl 1 rfl) ?_
    refine th_callV hx hb hml hown hts ⟨hK, hN⟩ hl hS ((th_gMp hG) 0 _ rfl) rfl (rest := []) (c_X1_valueAt l Y _ (ad 9) (ad 10) (ad 11) kvx ks (th_gMp hG) j1 (by omega)) ok_X1_valueAt tw_3_77 dX5_get_12 rfl rfl (Nat.le_of_ble_eq_true rfl) ⟨Nat.le_of_ble_eq_true rfl, Nat.le_of_ble_eq_true rfl⟩ ⟨Nat.le_of_ble_eq_true rfl, Nat.le_of_ble_eq_true rfl⟩ (fun _ h => h.elim) (th_kpi (fun locs hS => ?_))
    refine th_ti (hv.2.2.2.2.2.1 _ (by omega)) ?_
    refine thx_iret hx hb hr hlk hQ hS dX5_get_15 (Nat.le_of_ble_eq_true rfl) (Nat.le_of_ble_eq_true rfl) ?_
    refine ⟨_, rfl, ?_⟩
    unfold sp_get
    simp only [zj1]
    rw [th_ifT q1]
    exact ⟨rfl, rfl, th_GWs hG hJ hv⟩

set_option maxRecDepth 100000 in
set_option maxHeartbeats 4000000 in
theorem c_X5_isAlarmed (l : Launch) (hl0 : l.stackTraces = false) (Y : th_Y) (H0 : Heap) (ad : Nat → Nat) (S : th_S) (Vx B : Nat → Nat → Int32) (dsx kvx ks : Nat → Int32) (wy : Nat → Nat) (wz : Nat → Nat → Int32) (hI : th_I Y ad S Vx B dsx kvx ks wy wz H0) (x1 : Int32) : th_MX l Y yX5_isAlarmed cX5_isAlarmed 2 (some .boolean) (th_rm 6 8 400) [.ref (ad 0), .int x1] H0 (th_gA ad S.1 H0.size) (th_po Y (ad 0) (th_gA ad S.1 H0.size) (sp_isAlarmed S x1)) (th_px Y ["java/lang/IndexOutOfBoundsException"] (ad 0) (th_gA ad S.1 H0.size) S (sp_isAlarmed S x1)) := by
  refine th_MX.intro (by decide) (Nat.le_of_ble_eq_true rfl) ?_
  intro p e s m args below meth c ls Q hQ C hKN hl hS hX
  obtain ⟨hx, hb, hr, hml, hown, hts, hlk, hnm⟩ := C
  obtain ⟨hK, hN⟩ := hKN
  have hown : s.vm.findClass RX5 = some m.cls := hown
  have hl : lv_has ls 2 [(0, .ref (ad 0)), (1, .int x1)] := hl
  obtain ⟨hG, hJ, hv⟩ := hI
  have hv1 := hv.1
  have hv12 := hv.2.2.1
  refine lv_aload_n hx hb dX5_isAlarmed_0 rfl (lv_at hl 0 rfl) ?_
  refine lv_iload_n hx hb dX5_isAlarmed_1 rfl (lv_at hl 1 rfl) ?_
  refine thx_callV hx hb hml hown hts ⟨hK, hN⟩ hl hS hX ((th_gO hG) 0 _ rfl) rfl (rest := []) (c_X5_watcherNumbered l hl0 Y _ ad S.1 S.2.1 Vx B S.2.2.2.1 dsx wy wz kvx ks S.2.2.2.2.2.2.1 S.2.2.2.2.2.2.2 hG hv.1.2 x1) ok_X5_watcherNumbered tw_3_88 dX5_isAlarmed_2 rfl rfl (Nat.le_of_ble_eq_true rfl) ⟨(Nat.le_of_ble_eq_true rfl), (Nat.le_of_ble_eq_true rfl)⟩ ⟨(Nat.le_of_ble_eq_true rfl), (Nat.le_of_ble_eq_true rfl)⟩ (fun _ h => h.elim) ?_ ?_
  · rintro E9 ce9 q9 H9 locs9 ⟨rfl, hng9⟩ hsm9 hS9 hc9 hv9 hcl9
    refine thx_out hlk hX.2.2 hQ hS9 hc9 hv9 hcl9 (Nat.le_of_ble_eq_true rfl) (Nat.le_of_ble_eq_true rfl) ?_
    have q1 : ¬ th_ir x1 0 4 := hng9
    refine ⟨0, rfl, ?_, th_GWs (th_gkeep hG hsm9) hJ hv⟩
    unfold sp_isAlarmed
    rw [th_ifF (fun z9 => q1 z9)]
    all_goals rfl
  · skip
    refine th_kpr (fun r9 locs hr9 hS => ?_)
    obtain ⟨j1, hj1, ux9, rfl⟩ := hr9
    subst ux9
    have q1 : th_ir (nI j1) 0 4 := th_irN (Nat.zero_le _) hj1
    have zj1 : th_ix (nI j1) = j1 := th_ixN (by have := hv.1; omega)
    obtain ⟨hkj1, haj1⟩ := hv.2.2.2.2.2.2 j1 hj1
    have ha9 := haj1
    refine va_getN (D := Y.1) (ci := 3) (v := .int (S.2.2.2.2.2.2.2 j1 2)) (C := RX3) (T := TX3) (N := 6) hx hb hts inX3 hown hK (th_gW hG hj1) 0 rfl rfl 3 (by decide) (va_Nw.use rfl (tn_1_115 hN)) (fun _ h9 => h9) rfl dX5_isAlarmed_5 ?_
    refine thx_zret hx hb hr hlk hQ hS dX5_isAlarmed_8 (Nat.le_of_ble_eq_true rfl) (Nat.le_of_ble_eq_true rfl) (by first | exact Or.inl rfl | exact Or.inr rfl | exact th_b01 _ | assumption) ?_
    refine ⟨_, rfl, ?_⟩
    unfold sp_isAlarmed
    simp only [zj1]
    rw [th_ifT q1]
    exact ⟨rfl, rfl, th_GWs hG hJ hv⟩

set_option maxRecDepth 100000 in
set_option maxHeartbeats 4000000 in
theorem c_X5_keptSize (l : Launch) (hl0 : l.stackTraces = false) (Y : th_Y) (H0 : Heap) (ad : Nat → Nat) (S : th_S) (Vx B : Nat → Nat → Int32) (dsx kvx ks : Nat → Int32) (wy : Nat → Nat) (wz : Nat → Nat → Int32) (hI : th_I Y ad S Vx B dsx kvx ks wy wz H0) (x1 : Int32) : th_MX l Y yX5_keptSize cX5_keptSize 2 (some .int) (th_rm 6 8 400) [.ref (ad 0), .int x1] H0 (th_gA ad S.1 H0.size) (th_po Y (ad 0) (th_gA ad S.1 H0.size) (sp_keptSize S x1)) (th_px Y ["java/lang/IndexOutOfBoundsException"] (ad 0) (th_gA ad S.1 H0.size) S (sp_keptSize S x1)) := by
  refine th_MX.intro (by decide) (Nat.le_of_ble_eq_true rfl) ?_
  intro p e s m args below meth c ls Q hQ C hKN hl hS hX
  obtain ⟨hx, hb, hr, hml, hown, hts, hlk, hnm⟩ := C
  obtain ⟨hK, hN⟩ := hKN
  have hown : s.vm.findClass RX5 = some m.cls := hown
  have hl : lv_has ls 2 [(0, .ref (ad 0)), (1, .int x1)] := hl
  obtain ⟨hG, hJ, hv⟩ := hI
  have hv1 := hv.1
  have hv12 := hv.2.2.1
  refine lv_aload_n hx hb dX5_keptSize_0 rfl (lv_at hl 0 rfl) ?_
  refine lv_iload_n hx hb dX5_keptSize_1 rfl (lv_at hl 1 rfl) ?_
  refine thx_callV hx hb hml hown hts ⟨hK, hN⟩ hl hS hX ((th_gO hG) 0 _ rfl) rfl (rest := []) (c_X5_watcherNumbered l hl0 Y _ ad S.1 S.2.1 Vx B S.2.2.2.1 dsx wy wz kvx ks S.2.2.2.2.2.2.1 S.2.2.2.2.2.2.2 hG hv.1.2 x1) ok_X5_watcherNumbered tw_3_88 dX5_keptSize_2 rfl rfl (Nat.le_of_ble_eq_true rfl) ⟨(Nat.le_of_ble_eq_true rfl), (Nat.le_of_ble_eq_true rfl)⟩ ⟨(Nat.le_of_ble_eq_true rfl), (Nat.le_of_ble_eq_true rfl)⟩ (fun _ h => h.elim) ?_ ?_
  · rintro E9 ce9 q9 H9 locs9 ⟨rfl, hng9⟩ hsm9 hS9 hc9 hv9 hcl9
    refine thx_out hlk hX.2.2 hQ hS9 hc9 hv9 hcl9 (Nat.le_of_ble_eq_true rfl) (Nat.le_of_ble_eq_true rfl) ?_
    have q1 : ¬ th_ir x1 0 4 := hng9
    refine ⟨0, rfl, ?_, th_GWs (th_gkeep hG hsm9) hJ hv⟩
    unfold sp_keptSize
    rw [th_ifF (fun z9 => q1 z9)]
    all_goals rfl
  · skip
    refine th_kpr (fun r9 locs hr9 hS => ?_)
    obtain ⟨j1, hj1, ux9, rfl⟩ := hr9
    subst ux9
    have q1 : th_ir (nI j1) 0 4 := th_irN (Nat.zero_le _) hj1
    have zj1 : th_ix (nI j1) = j1 := th_ixN (by have := hv.1; omega)
    obtain ⟨hkj1, haj1⟩ := hv.2.2.2.2.2.2 j1 hj1
    refine va_getN (D := Y.1) (ci := 3) (v := .int (S.2.2.2.2.2.2.2 j1 0)) (C := RX3) (T := TX3) (N := 6) hx hb hts inX3 hown hK (th_gW hG hj1) 0 rfl rfl 1 (by decide) (va_Nw.use rfl (tn_1_111 hN)) (fun _ h9 => h9) rfl dX5_keptSize_5 ?_
    refine thx_iret hx hb hr hlk hQ hS dX5_keptSize_8 (Nat.le_of_ble_eq_true rfl) (Nat.le_of_ble_eq_true rfl) ?_
    refine ⟨_, rfl, ?_⟩
    unfold sp_keptSize
    simp only [zj1]
    rw [th_ifT q1]
    exact ⟨rfl, rfl, th_GWs hG hJ hv⟩

set_option maxRecDepth 100000 in
set_option maxHeartbeats 4000000 in
theorem c_X5_keptRoot (l : Launch) (hl0 : l.stackTraces = false) (Y : th_Y) (H0 : Heap) (ad : Nat → Nat) (S : th_S) (Vx B : Nat → Nat → Int32) (dsx kvx ks : Nat → Int32) (wy : Nat → Nat) (wz : Nat → Nat → Int32) (hI : th_I Y ad S Vx B dsx kvx ks wy wz H0) (x1 : Int32) : th_MX l Y yX5_keptRoot cX5_keptRoot 2 (some .int) (th_rm 6 8 400) [.ref (ad 0), .int x1] H0 (th_gA ad S.1 H0.size) (th_po Y (ad 0) (th_gA ad S.1 H0.size) (sp_keptRoot S x1)) (th_px Y ["java/lang/IndexOutOfBoundsException"] (ad 0) (th_gA ad S.1 H0.size) S (sp_keptRoot S x1)) := by
  refine th_MX.intro (by decide) (Nat.le_of_ble_eq_true rfl) ?_
  intro p e s m args below meth c ls Q hQ C hKN hl hS hX
  obtain ⟨hx, hb, hr, hml, hown, hts, hlk, hnm⟩ := C
  obtain ⟨hK, hN⟩ := hKN
  have hown : s.vm.findClass RX5 = some m.cls := hown
  have hl : lv_has ls 2 [(0, .ref (ad 0)), (1, .int x1)] := hl
  obtain ⟨hG, hJ, hv⟩ := hI
  have hv1 := hv.1
  have hv12 := hv.2.2.1
  refine lv_aload_n hx hb dX5_keptRoot_0 rfl (lv_at hl 0 rfl) ?_
  refine lv_iload_n hx hb dX5_keptRoot_1 rfl (lv_at hl 1 rfl) ?_
  refine thx_callV hx hb hml hown hts ⟨hK, hN⟩ hl hS hX ((th_gO hG) 0 _ rfl) rfl (rest := []) (c_X5_watcherNumbered l hl0 Y _ ad S.1 S.2.1 Vx B S.2.2.2.1 dsx wy wz kvx ks S.2.2.2.2.2.2.1 S.2.2.2.2.2.2.2 hG hv.1.2 x1) ok_X5_watcherNumbered tw_3_88 dX5_keptRoot_2 rfl rfl (Nat.le_of_ble_eq_true rfl) ⟨(Nat.le_of_ble_eq_true rfl), (Nat.le_of_ble_eq_true rfl)⟩ ⟨(Nat.le_of_ble_eq_true rfl), (Nat.le_of_ble_eq_true rfl)⟩ (fun _ h => h.elim) ?_ ?_
  · rintro E9 ce9 q9 H9 locs9 ⟨rfl, hng9⟩ hsm9 hS9 hc9 hv9 hcl9
    refine thx_out hlk hX.2.2 hQ hS9 hc9 hv9 hcl9 (Nat.le_of_ble_eq_true rfl) (Nat.le_of_ble_eq_true rfl) ?_
    have q1 : ¬ th_ir x1 0 4 := hng9
    refine ⟨0, rfl, ?_, th_GWs (th_gkeep hG hsm9) hJ hv⟩
    unfold sp_keptRoot
    rw [th_ifF (fun z9 => q1 z9)]
    all_goals rfl
  · skip
    refine th_kpr (fun r9 locs hr9 hS => ?_)
    obtain ⟨j1, hj1, ux9, rfl⟩ := hr9
    subst ux9
    have q1 : th_ir (nI j1) 0 4 := th_irN (Nat.zero_le _) hj1
    have zj1 : th_ix (nI j1) = j1 := th_ixN (by have := hv.1; omega)
    obtain ⟨hkj1, haj1⟩ := hv.2.2.2.2.2.2 j1 hj1
    refine va_getN (D := Y.1) (ci := 3) (v := .int (S.2.2.2.2.2.2.2 j1 1)) (C := RX3) (T := TX3) (N := 6) hx hb hts inX3 hown hK (th_gW hG hj1) 0 rfl rfl 2 (by decide) (va_Nw.use rfl (tn_1_113 hN)) (fun _ h9 => h9) rfl dX5_keptRoot_5 ?_
    refine thx_iret hx hb hr hlk hQ hS dX5_keptRoot_8 (Nat.le_of_ble_eq_true rfl) (Nat.le_of_ble_eq_true rfl) ?_
    refine ⟨_, rfl, ?_⟩
    unfold sp_keptRoot
    simp only [zj1]
    rw [th_ifT q1]
    exact ⟨rfl, rfl, th_GWs hG hJ hv⟩

set_option maxRecDepth 100000 in
set_option maxHeartbeats 4000000 in
theorem c_X5_counted (l : Launch) (hl0 : l.stackTraces = false) (Y : th_Y) (H0 : Heap) (ad : Nat → Nat) (S : th_S) (Vx B : Nat → Nat → Int32) (dsx kvx ks : Nat → Int32) (wy : Nat → Nat) (wz : Nat → Nat → Int32) (hI : th_I Y ad S Vx B dsx kvx ks wy wz H0) (x1 : Int32) : th_MX l Y yX5_counted cX5_counted 2 (some .int) (th_rm 6 8 400) [.ref (ad 0), .int x1] H0 (th_gA ad S.1 H0.size) (th_po Y (ad 0) (th_gA ad S.1 H0.size) (sp_counted S x1)) (th_px Y ["java/lang/IndexOutOfBoundsException"] (ad 0) (th_gA ad S.1 H0.size) S (sp_counted S x1)) := by
  refine th_MX.intro (by decide) (Nat.le_of_ble_eq_true rfl) ?_
  intro p e s m args below meth c ls Q hQ C hKN hl hS hX
  obtain ⟨hx, hb, hr, hml, hown, hts, hlk, hnm⟩ := C
  obtain ⟨hK, hN⟩ := hKN
  have hown : s.vm.findClass RX5 = some m.cls := hown
  have hl : lv_has ls 2 [(0, .ref (ad 0)), (1, .int x1)] := hl
  obtain ⟨hG, hJ, hv⟩ := hI
  have hv1 := hv.1
  have hv12 := hv.2.2.1
  refine lv_aload_n hx hb dX5_counted_0 rfl (lv_at hl 0 rfl) ?_
  refine lv_iload_n hx hb dX5_counted_1 rfl (lv_at hl 1 rfl) ?_
  refine thx_callV hx hb hml hown hts ⟨hK, hN⟩ hl hS hX ((th_gO hG) 0 _ rfl) rfl (rest := []) (c_X5_watcherNumbered l hl0 Y _ ad S.1 S.2.1 Vx B S.2.2.2.1 dsx wy wz kvx ks S.2.2.2.2.2.2.1 S.2.2.2.2.2.2.2 hG hv.1.2 x1) ok_X5_watcherNumbered tw_3_88 dX5_counted_2 rfl rfl (Nat.le_of_ble_eq_true rfl) ⟨(Nat.le_of_ble_eq_true rfl), (Nat.le_of_ble_eq_true rfl)⟩ ⟨(Nat.le_of_ble_eq_true rfl), (Nat.le_of_ble_eq_true rfl)⟩ (fun _ h => h.elim) ?_ ?_
  · rintro E9 ce9 q9 H9 locs9 ⟨rfl, hng9⟩ hsm9 hS9 hc9 hv9 hcl9
    refine thx_out hlk hX.2.2 hQ hS9 hc9 hv9 hcl9 (Nat.le_of_ble_eq_true rfl) (Nat.le_of_ble_eq_true rfl) ?_
    have q1 : ¬ th_ir x1 0 4 := hng9
    refine ⟨0, rfl, ?_, th_GWs (th_gkeep hG hsm9) hJ hv⟩
    unfold sp_counted
    rw [th_ifF (fun z9 => q1 z9)]
    all_goals rfl
  · skip
    refine th_kpr (fun r9 locs hr9 hS => ?_)
    obtain ⟨j1, hj1, ux9, rfl⟩ := hr9
    subst ux9
    have q1 : th_ir (nI j1) 0 4 := th_irN (Nat.zero_le _) hj1
    have zj1 : th_ix (nI j1) = j1 := th_ixN (by have := hv.1; omega)
    obtain ⟨hkj1, haj1⟩ := hv.2.2.2.2.2.2 j1 hj1
    refine va_getN (D := Y.1) (ci := 3) (v := .int (S.2.2.2.2.2.2.2 j1 4)) (C := RX3) (T := TX3) (N := 6) hx hb hts inX3 hown hK (th_gW hG hj1) 0 rfl rfl 5 (by decide) (va_Nw.use rfl (tn_1_119 hN)) (fun _ h9 => h9) rfl dX5_counted_5 ?_
    refine thx_iret hx hb hr hlk hQ hS dX5_counted_8 (Nat.le_of_ble_eq_true rfl) (Nat.le_of_ble_eq_true rfl) ?_
    refine ⟨_, rfl, ?_⟩
    unfold sp_counted
    simp only [zj1]
    rw [th_ifT q1]
    exact ⟨rfl, rfl, th_GWs hG hJ hv⟩

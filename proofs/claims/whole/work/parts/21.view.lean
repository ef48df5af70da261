set_option maxRecDepth 100000 in
set_option maxHeartbeats 4000000 in
theorem c_X2_blockAt (l : Launch) (Y : th_Y) (H : Heap) (v a b n : Nat) (f g : Nat → Int32) (hP : va_P Y.1 vwCl [(v, .inr (2, [.int (nI n), .ref a, .ref b])), (a, .inl (Y.2 0, 100, .inl f)), (b, .inl (Y.2 0, 256, .inl g))] H) (q : Nat) (hq : q < 256) : th_P l Y yX2_blockAt cX2_blockAt 2 (some .int) (th_rm 0 0 0) [.ref v, .int (nI q)] H (fun r9 => r9 = some (.int (g q))) := by
  refine th_M.intro (by decide) (Nat.le_of_ble_eq_true rfl) ?_
  intro p e s m args below meth c ls Q hQ C hKN hl hS
  obtain ⟨hx, hb, hr, hml, hown, hts, hlk, hnm⟩ := C
  obtain ⟨hK, hN⟩ := hKN
  have hown : s.vm.findClass RX2 = some m.cls := hown
  have hl : lv_has ls 2 [(0, .ref v), (1, .int (nI q))] := hl
  refine lv_iload_n hx hb dX2_blockAt_0 rfl (lv_at hl 1 rfl) ?_
  refine th_zlt (tgt := 22) hx hb dX2_blockAt_1 (by decide) (by omega) ?_
  refine lv_iload_n hx hb dX2_blockAt_4 rfl (lv_at hl 1 rfl) ?_
  refine lv_aload_n hx hb dX2_blockAt_5 rfl (lv_at hl 0 rfl) ?_
  refine va_get (D := Y.1) (ci := 2) (v := .ref b) (C := RX2) (T := TX2) (N := 3) hx hb hts inX2 hown hK hP 0 rfl rfl 2 (by decide) (hts _ tw_1_96) (fun _ h9 => h9) rfl dX2_blockAt_6 ?_
  refine va_alen (v := nI 256) hx hb hK hP 2 0 rfl rfl rfl dX2_blockAt_9 ?_
  refine th_ige (tgt := 22) hx hb dX2_blockAt_10 (by decide) (by omega) (by omega) (fun c_1 => by exfalso; omega) (fun c_1 => ?_)
  refine lv_aload_n hx hb dX2_blockAt_13 rfl (lv_at hl 0 rfl) ?_
  refine va_get (D := Y.1) (ci := 2) (v := .ref b) (C := RX2) (T := TX2) (N := 3) hx hb hts inX2 hown hK hP 0 rfl rfl 2 (by decide) (hts _ tw_1_96) (fun _ h9 => h9) rfl dX2_blockAt_14 ?_
  refine lv_iload_n hx hb dX2_blockAt_17 rfl (lv_at hl 1 rfl) ?_
  refine th_iald hx hb hK hP 2 rfl (j := q) (by omega) (by omega) dX2_blockAt_18 ?_
  refine lv_goto (tgt := 23) hx hb dX2_blockAt_19 (by decide) ?_
  refine th_iret hx hb hr hlk hQ hS dX2_blockAt_23 (Nat.le_of_ble_eq_true rfl) (Nat.le_of_ble_eq_true rfl) ?_
  exact ⟨rfl, rfl⟩

set_option maxRecDepth 100000 in
set_option maxHeartbeats 4000000 in
theorem c_X2_valueAt (l : Launch) (Y : th_Y) (H : Heap) (v a b n : Nat) (f g : Nat → Int32) (hP : va_P Y.1 vwCl [(v, .inr (2, [.int (nI n), .ref a, .ref b])), (a, .inl (Y.2 0, 100, .inl f)), (b, .inl (Y.2 0, 256, .inl g))] H) (q : Nat) (hq : q < n) (hn : n ≤ 100) : th_P l Y yX2_valueAt cX2_valueAt 2 (some .int) (th_rm 0 0 0) [.ref v, .int (nI q)] H (fun r9 => r9 = some (.int (f q))) := by
  refine th_M.intro (by decide) (Nat.le_of_ble_eq_true rfl) ?_
  intro p e s m args below meth c ls Q hQ C hKN hl hS
  obtain ⟨hx, hb, hr, hml, hown, hts, hlk, hnm⟩ := C
  obtain ⟨hK, hN⟩ := hKN
  have hown : s.vm.findClass RX2 = some m.cls := hown
  have hl : lv_has ls 2 [(0, .ref v), (1, .int (nI q))] := hl
  refine lv_iload_n hx hb dX2_valueAt_0 rfl (lv_at hl 1 rfl) ?_
  refine th_zlt (tgt := 30) hx hb dX2_valueAt_1 (by decide) (by omega) ?_
  refine lv_iload_n hx hb dX2_valueAt_4 rfl (lv_at hl 1 rfl) ?_
  refine lv_aload_n hx hb dX2_valueAt_5 rfl (lv_at hl 0 rfl) ?_
  refine va_get (D := Y.1) (ci := 2) (v := .int (nI n)) (C := RX2) (T := TX2) (N := 3) hx hb hts inX2 hown hK hP 0 rfl rfl 0 (by decide) (hts _ tw_1_92) (fun _ h9 => h9) rfl dX2_valueAt_6 ?_
  refine th_ige (tgt := 30) hx hb dX2_valueAt_9 (by decide) (by omega) (by omega) (fun c_1 => by exfalso; omega) (fun c_1 => ?_)
  refine lv_iload_n hx hb dX2_valueAt_12 rfl (lv_at hl 1 rfl) ?_
  refine lv_aload_n hx hb dX2_valueAt_13 rfl (lv_at hl 0 rfl) ?_
  refine va_get (D := Y.1) (ci := 2) (v := .ref a) (C := RX2) (T := TX2) (N := 3) hx hb hts inX2 hown hK hP 0 rfl rfl 1 (by decide) (hts _ tw_1_95) (fun _ h9 => h9) rfl dX2_valueAt_14 ?_
  refine va_alen (v := nI 100) hx hb hK hP 1 0 rfl rfl rfl dX2_valueAt_17 ?_
  refine th_ige (tgt := 30) hx hb dX2_valueAt_18 (by decide) (by omega) (by omega) (fun c_2 => by exfalso; omega) (fun c_2 => ?_)
  refine lv_aload_n hx hb dX2_valueAt_21 rfl (lv_at hl 0 rfl) ?_
  refine va_get (D := Y.1) (ci := 2) (v := .ref a) (C := RX2) (T := TX2) (N := 3) hx hb hts inX2 hown hK hP 0 rfl rfl 1 (by decide) (hts _ tw_1_95) (fun _ h9 => h9) rfl dX2_valueAt_22 ?_
  refine lv_iload_n hx hb dX2_valueAt_25 rfl (lv_at hl 1 rfl) ?_
  refine th_iald hx hb hK hP 1 rfl (j := q) (by omega) (by omega) dX2_valueAt_26 ?_
  refine lv_goto (tgt := 31) hx hb dX2_valueAt_27 (by decide) ?_
  refine th_iret hx hb hr hlk hQ hS dX2_valueAt_31 (Nat.le_of_ble_eq_true rfl) (Nat.le_of_ble_eq_true rfl) ?_
  exact ⟨rfl, rfl⟩

set_option maxRecDepth 100000 in
set_option maxHeartbeats 4000000 in
theorem c_X2_rootOfRow (l : Launch) (Y : th_Y) (H : Heap) (v a b n : Nat) (f g : Nat → Int32) (hP : va_P Y.1 vwCl [(v, .inr (2, [.int (nI n), .ref a, .ref b])), (a, .inl (Y.2 0, 100, .inl f)), (b, .inl (Y.2 0, 256, .inl g))] H) (a0 m0 : Nat) (hn : n ≤ 100) (hm : a0 + m0 ≤ n) (hB : th_BI f g n) (hal : th_al a0 m0) : th_P l Y yX2_rootOfRow cX2_rootOfRow 8 (some .int) (th_rm 1 0 0) [.ref v, .int (nI a0), .int (nI m0)] H (fun r9 => r9 = some (.int (th_rt f a0 m0))) := by
  refine th_M.intro (by decide) (Nat.le_of_ble_eq_true rfl) ?_
  intro p e s m args below meth c ls Q hQ C hKN hl hS
  obtain ⟨hx, hb, hr, hml, hown, hts, hlk, hnm⟩ := C
  obtain ⟨hK, hN⟩ := hKN
  have hown : s.vm.findClass RX2 = some m.cls := hown
  have hl : lv_has ls 8 [(0, .ref v), (1, .int (nI a0)), (2, .int (nI m0))] := hl
  refine lv_iload_n hx hb dX2_rootOfRow_0 rfl (lv_at hl 1 rfl) ?_
  refine th_zlt (tgt := 26) hx hb dX2_rootOfRow_1 (by decide) (by omega) ?_
  refine lv_iload_n hx hb dX2_rootOfRow_4 rfl (lv_at hl 2 rfl) ?_
  refine th_zlt (tgt := 26) hx hb dX2_rootOfRow_5 (by decide) (by omega) ?_
  refine lv_iload_n hx hb dX2_rootOfRow_8 rfl (lv_at hl 1 rfl) ?_
  refine lv_aload_n hx hb dX2_rootOfRow_9 rfl (lv_at hl 0 rfl) ?_
  refine va_get (D := Y.1) (ci := 2) (v := .int (nI n)) (C := RX2) (T := TX2) (N := 3) hx hb hts inX2 hown hK hP 0 rfl rfl 0 (by decide) (hts _ tw_1_92) (fun _ h9 => h9) rfl dX2_rootOfRow_10 ?_
  refine th_igt (tgt := 26) hx hb dX2_rootOfRow_13 (by decide) (by omega) (by omega) (fun c_1 => by exfalso; omega) (fun c_1 => ?_)
  refine lv_iload_n hx hb dX2_rootOfRow_16 rfl (lv_at hl 2 rfl) ?_
  refine lv_aload_n hx hb dX2_rootOfRow_17 rfl (lv_at hl 0 rfl) ?_
  refine va_get (D := Y.1) (ci := 2) (v := .int (nI n)) (C := RX2) (T := TX2) (N := 3) hx hb hts inX2 hown hK hP 0 rfl rfl 0 (by decide) (hts _ tw_1_92) (fun _ h9 => h9) rfl dX2_rootOfRow_18 ?_
  refine lv_iload_n hx hb dX2_rootOfRow_21 rfl (lv_at hl 1 rfl) ?_
  refine lv_isub hx hb dX2_rootOfRow_22 ?_
  refine th_ti (pk_sub (by omega)) ?_
  refine th_ile (tgt := 28) hx hb dX2_rootOfRow_23 (by decide) (by omega) (by omega) (fun c_2 => ?_) (fun c_2 => by exfalso; omega)
  refine lv_iconst (v := nI 0) hx hb dX2_rootOfRow_28 (by decide) ?_
  refine lv_istore_n (lv' := [(3, .int (nI 0)), (0, .ref v), (1, .int (nI a0)), (2, .int (nI m0))]) hx hb dX2_rootOfRow_29 rfl hl (by decide) rfl (fun ls hl => ?_)
  refine lv_iload_n hx hb dX2_rootOfRow_30 rfl (lv_at hl 2 rfl) ?_
  refine lv_iload_n hx hb dX2_rootOfRow_31 rfl (lv_at hl 3 rfl) ?_
  refine lv_iadd hx hb dX2_rootOfRow_32 ?_
  refine th_ti (nI_add _ _) ?_
  refine lv_istore (lv' := [(4, .int (nI (a0 + m0))), (3, .int (nI 0)), (0, .ref v), (1, .int (nI a0)), (2, .int (nI m0))]) hx hb dX2_rootOfRow_33 hl (by decide) rfl (fun ls hl => ?_)
  refine lv_iconst (v := nI 0) hx hb dX2_rootOfRow_35 (by decide) ?_
  refine lv_istore (lv' := [(5, .int (nI 0)), (4, .int (nI (a0 + m0))), (3, .int (nI 0)), (0, .ref v), (1, .int (nI a0)), (2, .int (nI m0))]) hx hb dX2_rootOfRow_36 hl (by decide) rfl (fun ls hl => ?_)
  have lp_3 : ∀ (n_4 : Nat) (ed : Nat) (root : Int32) (lev : Nat) (locs : List Loc) (ls : Array Slot), 7 - lev < n_4 → (lev ≤ 7) → (ed + m0 % 2 ^ lev = a0 + m0) → (root = th_rt f ed (m0 % 2 ^ lev)) → va_S (th_no) H H locs → lv_has ls 8 [(0, .ref v), (1, .int (nI a0)), (2, .int (nI m0)), (3, .int root), (4, .int (nI ed)), (5, .int (nI lev))] → W p l e (th_rm 1 0 0) s m args below meth c H locs 0 0 Q (F0 m 38 ls []) := by
    intro n_4; induction n_4 with
    | zero => intros; exfalso; omega
    | succ n_4 ih =>
      intro ed root lev locs ls hmz hlev he hroot hS hl
      have h2 : 2 ^ lev ≤ 128 := Nat.le_trans (Nat.pow_le_pow_right (n := 2) (by decide) hlev) (by decide)
      have h20 : 0 < 2 ^ lev := Nat.two_pow_pos lev
      have h3 : m0 / 2 ^ lev ≤ m0 := Nat.div_le_self _ _
      refine lv_iload hx hb dX2_rootOfRow_38 (lv_at hl 5 rfl) ?_
      refine lv_bipush (v := nI 7) hx hb dX2_rootOfRow_40 (by decide) ?_
      refine th_ige (tgt := 117) hx hb dX2_rootOfRow_42 (by decide) (by omega) (by omega) (fun c_5 => ?_) (fun c_5 => ?_)
      · skip
        refine lv_iload_n hx hb dX2_rootOfRow_117 rfl (lv_at hl 3 rfl) ?_
        refine th_iret hx hb hr hlk hQ hS dX2_rootOfRow_118 (Nat.le_of_ble_eq_true rfl) (Nat.le_of_ble_eq_true rfl) ?_
        obtain rfl : lev = 7 := by omega
        obtain rfl : ed = a0 := by simp only [Nat.reducePow] at he; omega
        exact ⟨by rw [hroot, Nat.mod_eq_of_lt (by simp only [Nat.reducePow]; omega)], rfl⟩
      refine lv_iload_n hx hb dX2_rootOfRow_45 rfl (lv_at hl 2 rfl) ?_
      refine lv_iload hx hb dX2_rootOfRow_46 (lv_at hl 5 rfl) ?_
      refine lv_ishr hx hb dX2_rootOfRow_48 ?_
      refine th_ti (show (nI m0) >>> ((nI lev) &&& 31) = nI (m0 / 2 ^ lev) from pk_shrN (by omega) _ lev (th_s5 lev (by omega))) ?_
      refine lv_iconst (v := nI 1) hx hb dX2_rootOfRow_49 (by decide) ?_
      refine lv_iand hx hb dX2_rootOfRow_50 ?_
      refine th_ti (show (nI (m0 / 2 ^ lev)) &&& (nI 1) = nI (m0 / 2 ^ lev % 2) from pk_andN (by omega) 1 (by decide)) ?_
      refine lv_iconst (v := nI 1) hx hb dX2_rootOfRow_51 (by decide) ?_
      refine th_ine (tgt := 111) hx hb dX2_rootOfRow_52 (by decide) (by omega) (by omega) (fun c_6 => ?_) (fun c_6 => ?_)
      · skip
        refine lv_iinc (v := nI (lev + 1)) (lv' := [(5, .int (nI (lev + 1))), (0, .ref v), (1, .int (nI a0)), (2, .int (nI m0)), (3, .int root), (4, .int (nI ed))]) hx hb dX2_rootOfRow_111 hl (k := 5) rfl (nI_add _ 1) (by decide) rfl (fun ls hl => ?_)
        refine lv_goto (tgt := 38) hx hb dX2_rootOfRow_114 (by decide) ?_
        exact ih (ed) (root) (lev + 1) _ _ (by omega) (by omega) (by first | exact k3 | (rw [th_row_z (by omega) (by omega)]; exact he)) (by first | (rw [k4, if_pos (by omega)]; done) | (rw [k4, if_neg (by omega), hroot]; done) | (rw [th_row_z (by omega) (by omega)]; exact hroot)) hS (lv_sub hl [1, 2, 3, 4, 5, 0] rfl)
      obtain ⟨k1, k2, k3, k4⟩ := th_row_s hn hB hal hm (show lev < 7 by omega) he c_6
      refine lv_iload hx hb dX2_rootOfRow_55 (lv_at hl 4 rfl) ?_
      refine lv_iload_n hx hb dX2_rootOfRow_57 rfl (lv_at hl 1 rfl) ?_
      refine lv_iload_n hx hb dX2_rootOfRow_58 rfl (lv_at hl 2 rfl) ?_
      refine lv_iadd hx hb dX2_rootOfRow_59 ?_
      refine th_ti (nI_add _ _) ?_
      refine th_ine (tgt := 67) hx hb dX2_rootOfRow_60 (by decide) (by omega) (by omega) (fun c_7 => ?_) (fun c_7 => ?_)
      · skip
        refine lv_iconst (v := nI 0) hx hb dX2_rootOfRow_67 (by decide) ?_
        refine lv_istore (lv' := [(6, .int (nI 0)), (0, .ref v), (1, .int (nI a0)), (2, .int (nI m0)), (3, .int root), (4, .int (nI ed)), (5, .int (nI lev))]) hx hb dX2_rootOfRow_68 hl (by decide) rfl (fun ls hl => ?_)
        refine lv_iload hx hb dX2_rootOfRow_70 (lv_at hl 5 rfl) ?_
        refine lv_iconst (v := nI 1) hx hb dX2_rootOfRow_72 (by decide) ?_
        refine lv_iload hx hb dX2_rootOfRow_73 (lv_at hl 6 rfl) ?_
        refine lv_ishl hx hb dX2_rootOfRow_75 ?_
        refine th_ti (show (nI 1) <<< ((nI lev) &&& 31) = nI (2 ^ lev) from (pk_shlN _ lev (th_s5 lev (by omega)) (by omega)).trans (by rw [Nat.one_mul])) ?_
        refine lv_isub hx hb dX2_rootOfRow_76 ?_
        refine th_ti (pk_sub (by omega)) ?_
        refine lv_istore (lv' := [(4, .int (nI (ed - (2 ^ lev)))), (6, .int (nI 0)), (0, .ref v), (1, .int (nI a0)), (2, .int (nI m0)), (3, .int root), (5, .int (nI lev))]) hx hb dX2_rootOfRow_77 hl (by decide) rfl (fun ls hl => ?_)
        refine lv_aload_n hx hb dX2_rootOfRow_79 rfl (lv_at hl 2 rfl) ?_
        refine lv_sipush (v := nI 128) hx hb dX2_rootOfRow_80 (by decide) ?_
        refine lv_iload hx hb dX2_rootOfRow_83 (lv_at hl 0 rfl) ?_
        refine lv_iadd hx hb dX2_rootOfRow_85 ?_
        refine th_ti (nI_add _ _) ?_
        refine lv_iload hx hb dX2_rootOfRow_86 (lv_at hl 6 rfl) ?_
        refine lv_ishr hx hb dX2_rootOfRow_88 ?_
        refine th_ti (show (nI (128 + (ed - (2 ^ lev)))) >>> ((nI lev) &&& 31) = nI ((128 + (ed - 2 ^ lev)) / 2 ^ lev) from pk_shrN (by omega) _ lev (th_s5 lev (by omega))) ?_
        refine th_callV hx hb hml hown hts ⟨hK, hN⟩ hl hS (hP 0 _ rfl) rfl (rest := []) (c_X2_blockAt l Y _ v a b n f g (hP.sub (ws' := [(v, .inr (2, [.int (nI n), .ref a, .ref b])), (a, .inl (Y.2 0, 100, .inl f)), (b, .inl (Y.2 0, 256, .inl g))]) [0, 1, 2] rfl) ((128 + (ed - 2 ^ lev)) / 2 ^ lev) (by omega)) ok_X2_blockAt tw_2_111 dX2_rootOfRow_89 rfl rfl (Nat.le_of_ble_eq_true rfl) ⟨Nat.le_of_ble_eq_true rfl, Nat.le_of_ble_eq_true rfl⟩ ⟨Nat.le_of_ble_eq_true rfl, Nat.le_of_ble_eq_true rfl⟩ (fun _ h => h.elim) (th_kpi (fun locs hS => ?_))
        refine lv_istore (lv' := [(7, .int (g ((128 + (ed - 2 ^ lev)) / 2 ^ lev))), (4, .int (nI (ed - (2 ^ lev)))), (6, .int (nI 0)), (0, .ref v), (1, .int (nI a0)), (2, .int (nI m0)), (3, .int root), (5, .int (nI lev))]) hx hb dX2_rootOfRow_92 hl (by decide) rfl (fun ls hl => ?_)
        refine lv_iload hx hb dX2_rootOfRow_94 (lv_at hl 2 rfl) ?_
        refine th_zeq (tgt := 104) hx hb dX2_rootOfRow_96 (by decide) (by omega) (fun c_8 => ?_) (fun c_8 => by exfalso; omega)
        refine lv_iload hx hb dX2_rootOfRow_104 (lv_at hl 0 rfl) ?_
        refine lv_iload_n hx hb dX2_rootOfRow_106 rfl (lv_at hl 6 rfl) ?_
        refine th_callSN hx hb hml hown hts ⟨hK, hN⟩ hl hS (rest := []) (c_X5_mix l Y _ (g ((128 + (ed - 2 ^ lev)) / 2 ^ lev)) root) ok_X5_mix (tn_2_56 hN) dX2_rootOfRow_107 rfl rfl (Nat.le_of_ble_eq_true rfl) ⟨Nat.le_of_ble_eq_true rfl, Nat.le_of_ble_eq_true rfl⟩ ⟨Nat.le_of_ble_eq_true rfl, Nat.le_of_ble_eq_true rfl⟩ (fun _ h => h.elim) (th_kpi (fun locs hS => ?_))
        refine lv_istore_n (lv' := [(3, .int (th_mx (g ((128 + (ed - 2 ^ lev)) / 2 ^ lev)) root)), (7, .int (g ((128 + (ed - 2 ^ lev)) / 2 ^ lev))), (4, .int (nI (ed - (2 ^ lev)))), (6, .int (nI 0)), (0, .ref v), (1, .int (nI a0)), (2, .int (nI m0)), (5, .int (nI lev))]) hx hb dX2_rootOfRow_110 rfl hl (by decide) rfl (fun ls hl => ?_)
        refine lv_iinc (v := nI (lev + 1)) (lv' := [(5, .int (nI (lev + 1))), (3, .int (th_mx (g ((128 + (ed - 2 ^ lev)) / 2 ^ lev)) root)), (7, .int (g ((128 + (ed - 2 ^ lev)) / 2 ^ lev))), (4, .int (nI (ed - (2 ^ lev)))), (6, .int (nI 0)), (0, .ref v), (1, .int (nI a0)), (2, .int (nI m0))]) hx hb dX2_rootOfRow_111 hl (k := 7) rfl (nI_add _ 1) (by decide) rfl (fun ls hl => ?_)
        refine lv_goto (tgt := 38) hx hb dX2_rootOfRow_114 (by decide) ?_
        exact ih (ed - (2 ^ lev)) (th_mx (g ((128 + (ed - 2 ^ lev)) / 2 ^ lev)) root) (lev + 1) _ _ (by omega) (by omega) (by first | exact k3 | (rw [th_row_z (by omega) (by omega)]; exact he)) (by first | (rw [k4, if_pos (by omega)]; done) | (rw [k4, if_neg (by omega), hroot]; done) | (rw [th_row_z (by omega) (by omega)]; exact hroot)) hS (lv_sub hl [5, 6, 7, 1, 3, 0] rfl)
      refine lv_iconst (v := nI 1) hx hb dX2_rootOfRow_63 (by decide) ?_
      refine lv_goto (tgt := 68) hx hb dX2_rootOfRow_64 (by decide) ?_
      refine lv_istore (lv' := [(6, .int (nI 1)), (0, .ref v), (1, .int (nI a0)), (2, .int (nI m0)), (3, .int root), (4, .int (nI ed)), (5, .int (nI lev))]) hx hb dX2_rootOfRow_68 hl (by decide) rfl (fun ls hl => ?_)
      refine lv_iload hx hb dX2_rootOfRow_70 (lv_at hl 5 rfl) ?_
      refine lv_iconst (v := nI 1) hx hb dX2_rootOfRow_72 (by decide) ?_
      refine lv_iload hx hb dX2_rootOfRow_73 (lv_at hl 6 rfl) ?_
      refine lv_ishl hx hb dX2_rootOfRow_75 ?_
      refine th_ti (show (nI 1) <<< ((nI lev) &&& 31) = nI (2 ^ lev) from (pk_shlN _ lev (th_s5 lev (by omega)) (by omega)).trans (by rw [Nat.one_mul])) ?_
      refine lv_isub hx hb dX2_rootOfRow_76 ?_
      refine th_ti (pk_sub (by omega)) ?_
      refine lv_istore (lv' := [(4, .int (nI (ed - (2 ^ lev)))), (6, .int (nI 1)), (0, .ref v), (1, .int (nI a0)), (2, .int (nI m0)), (3, .int root), (5, .int (nI lev))]) hx hb dX2_rootOfRow_77 hl (by decide) rfl (fun ls hl => ?_)
      refine lv_aload_n hx hb dX2_rootOfRow_79 rfl (lv_at hl 2 rfl) ?_
      refine lv_sipush (v := nI 128) hx hb dX2_rootOfRow_80 (by decide) ?_
      refine lv_iload hx hb dX2_rootOfRow_83 (lv_at hl 0 rfl) ?_
      refine lv_iadd hx hb dX2_rootOfRow_85 ?_
      refine th_ti (nI_add _ _) ?_
      refine lv_iload hx hb dX2_rootOfRow_86 (lv_at hl 6 rfl) ?_
      refine lv_ishr hx hb dX2_rootOfRow_88 ?_
      refine th_ti (show (nI (128 + (ed - (2 ^ lev)))) >>> ((nI lev) &&& 31) = nI ((128 + (ed - 2 ^ lev)) / 2 ^ lev) from pk_shrN (by omega) _ lev (th_s5 lev (by omega))) ?_
      refine th_callV hx hb hml hown hts ⟨hK, hN⟩ hl hS (hP 0 _ rfl) rfl (rest := []) (c_X2_blockAt l Y _ v a b n f g (hP.sub (ws' := [(v, .inr (2, [.int (nI n), .ref a, .ref b])), (a, .inl (Y.2 0, 100, .inl f)), (b, .inl (Y.2 0, 256, .inl g))]) [0, 1, 2] rfl) ((128 + (ed - 2 ^ lev)) / 2 ^ lev) (by omega)) ok_X2_blockAt tw_2_111 dX2_rootOfRow_89 rfl rfl (Nat.le_of_ble_eq_true rfl) ⟨Nat.le_of_ble_eq_true rfl, Nat.le_of_ble_eq_true rfl⟩ ⟨Nat.le_of_ble_eq_true rfl, Nat.le_of_ble_eq_true rfl⟩ (fun _ h => h.elim) (th_kpi (fun locs hS => ?_))
      refine lv_istore (lv' := [(7, .int (g ((128 + (ed - 2 ^ lev)) / 2 ^ lev))), (4, .int (nI (ed - (2 ^ lev)))), (6, .int (nI 1)), (0, .ref v), (1, .int (nI a0)), (2, .int (nI m0)), (3, .int root), (5, .int (nI lev))]) hx hb dX2_rootOfRow_92 hl (by decide) rfl (fun ls hl => ?_)
      refine lv_iload hx hb dX2_rootOfRow_94 (lv_at hl 2 rfl) ?_
      refine th_zeq (tgt := 104) hx hb dX2_rootOfRow_96 (by decide) (by omega) (fun c_9 => by exfalso; omega) (fun c_9 => ?_)
      refine lv_iload hx hb dX2_rootOfRow_99 (lv_at hl 0 rfl) ?_
      refine lv_goto (tgt := 110) hx hb dX2_rootOfRow_101 (by decide) ?_
      refine lv_istore_n (lv' := [(3, .int (g ((128 + (ed - 2 ^ lev)) / 2 ^ lev))), (7, .int (g ((128 + (ed - 2 ^ lev)) / 2 ^ lev))), (4, .int (nI (ed - (2 ^ lev)))), (6, .int (nI 1)), (0, .ref v), (1, .int (nI a0)), (2, .int (nI m0)), (5, .int (nI lev))]) hx hb dX2_rootOfRow_110 rfl hl (by decide) rfl (fun ls hl => ?_)
      refine lv_iinc (v := nI (lev + 1)) (lv' := [(5, .int (nI (lev + 1))), (3, .int (g ((128 + (ed - 2 ^ lev)) / 2 ^ lev))), (7, .int (g ((128 + (ed - 2 ^ lev)) / 2 ^ lev))), (4, .int (nI (ed - (2 ^ lev)))), (6, .int (nI 1)), (0, .ref v), (1, .int (nI a0)), (2, .int (nI m0))]) hx hb dX2_rootOfRow_111 hl (k := 7) rfl (nI_add _ 1) (by decide) rfl (fun ls hl => ?_)
      refine lv_goto (tgt := 38) hx hb dX2_rootOfRow_114 (by decide) ?_
      exact ih (ed - (2 ^ lev)) (g ((128 + (ed - 2 ^ lev)) / 2 ^ lev)) (lev + 1) _ _ (by omega) (by omega) (by first | exact k3 | (rw [th_row_z (by omega) (by omega)]; exact he)) (by first | (rw [k4, if_pos (by omega)]; done) | (rw [k4, if_neg (by omega), hroot]; done) | (rw [th_row_z (by omega) (by omega)]; exact hroot)) hS (lv_sub hl [5, 6, 7, 1, 3, 0] rfl)
  exact lp_3 ((7 - (0)) + 1) (a0 + m0) (nI 0) (0) _ _ (Nat.lt_succ_self _) (by omega) (by rw [Nat.pow_zero, Nat.mod_one]; rfl) (by rw [Nat.pow_zero, Nat.mod_one, th_rt_0]; rfl) hS (lv_sub hl [3, 4, 5, 2, 1, 0] rfl)

set_option maxRecDepth 100000 in
set_option maxHeartbeats 4000000 in
theorem c_X2_rootAt (l : Launch) (Y : th_Y) (H : Heap) (v a b n : Nat) (f g : Nat → Int32) (hP : va_P Y.1 vwCl [(v, .inr (2, [.int (nI n), .ref a, .ref b])), (a, .inl (Y.2 0, 100, .inl f)), (b, .inl (Y.2 0, 256, .inl g))] H) (m0 : Nat) (hn : n ≤ 100) (hm : m0 ≤ n) (hB : th_BI f g n) : th_P l Y yX2_rootAt cX2_rootAt 2 (some .int) (th_rm 2 0 0) [.ref v, .int (nI m0)] H (fun r9 => r9 = some (.int (th_rt f 0 m0))) := by
  refine th_M.intro (by decide) (Nat.le_of_ble_eq_true rfl) ?_
  intro p e s m args below meth c ls Q hQ C hKN hl hS
  obtain ⟨hx, hb, hr, hml, hown, hts, hlk, hnm⟩ := C
  obtain ⟨hK, hN⟩ := hKN
  have hown : s.vm.findClass RX2 = some m.cls := hown
  have hl : lv_has ls 2 [(0, .ref v), (1, .int (nI m0))] := hl
  refine lv_aload_n hx hb dX2_rootAt_0 rfl (lv_at hl 0 rfl) ?_
  refine lv_iconst (v := nI 0) hx hb dX2_rootAt_1 (by decide) ?_
  refine lv_iload_n hx hb dX2_rootAt_2 rfl (lv_at hl 1 rfl) ?_
  refine th_callV hx hb hml hown hts ⟨hK, hN⟩ hl hS (hP 0 _ rfl) rfl (rest := []) (c_X2_rootOfRow l Y _ v a b n f g (hP.sub (ws' := [(v, .inr (2, [.int (nI n), .ref a, .ref b])), (a, .inl (Y.2 0, 100, .inl f)), (b, .inl (Y.2 0, 256, .inl g))]) [0, 1, 2] rfl) 0 m0 (by omega) (by omega) hB (by first | assumption | exact th_al_0 (by omega))) ok_X2_rootOfRow tw_2_107 dX2_rootAt_3 rfl rfl (Nat.le_of_ble_eq_true rfl) ⟨Nat.le_of_ble_eq_true rfl, Nat.le_of_ble_eq_true rfl⟩ ⟨Nat.le_of_ble_eq_true rfl, Nat.le_of_ble_eq_true rfl⟩ (fun _ h => h.elim) (th_kpi (fun locs hS => ?_))
  refine th_iret hx hb hr hlk hQ hS dX2_rootAt_6 (Nat.le_of_ble_eq_true rfl) (Nat.le_of_ble_eq_true rfl) ?_
  exact ⟨rfl, rfl⟩

set_option maxRecDepth 100000 in
set_option maxHeartbeats 4000000 in
theorem c_X2_rootAnewOf (l : Launch) (Y : th_Y) : ∀ (k : Nat), k ≤ 7 → ∀ (H : Heap) (a : Nat) (f : Nat → Int32) (hP : va_P Y.1 vwCl [(a, .inl (Y.2 0, 100, .inl f))] H) (x m0 d : Nat), d + k = 7 → 1 ≤ m0 → m0 ≤ 2 ^ k → x + m0 ≤ 100 → th_P l Y yX2_rootAnewOf cX2_rootAnewOf 5 (some .int) (th_rm (k + 1) 0 0) [.ref a, .int (nI x), .int (nI m0), .int (nI d)] H (fun r9 => r9 = some (.int (th_rt f x m0))) := by
  intro k; induction k with
  | zero =>
    intro hk H a f hP x m0 d hd h1 hmk hx
    simp only [Nat.reducePow] at hmk
    refine th_M.intro (by decide) (Nat.le_of_ble_eq_true rfl) ?_
    intro p e s m args below meth c ls Q hQ C hKN hl hS
    obtain ⟨hx, hb, hr, hml, hown, hts, hlk, hnm⟩ := C
    obtain ⟨hK, hN⟩ := hKN
    have hown : s.vm.findClass RX2 = some m.cls := hown
    have hl : lv_has ls 5 [(0, .ref a), (1, .int (nI x)), (2, .int (nI m0)), (3, .int (nI d))] := hl
    refine lv_iload_n hx hb dX2_rootAnewOf_0 rfl (lv_at hl 3 rfl) ?_
    refine lv_bipush (v := nI 7) hx hb dX2_rootAnewOf_1 (by decide) ?_
    refine th_igt (tgt := 16) hx hb dX2_rootAnewOf_3 (by decide) (by omega) (by omega) (fun c_1 => by exfalso; omega) (fun c_1 => ?_)
    refine lv_iload_n hx hb dX2_rootAnewOf_6 rfl (lv_at hl 1 rfl) ?_
    refine th_zlt (tgt := 16) hx hb dX2_rootAnewOf_7 (by decide) (by omega) ?_
    refine lv_iload_n hx hb dX2_rootAnewOf_10 rfl (lv_at hl 1 rfl) ?_
    refine lv_aload_n hx hb dX2_rootAnewOf_11 rfl (lv_at hl 0 rfl) ?_
    refine va_alen (v := nI 100) hx hb hK hP 0 0 rfl rfl rfl dX2_rootAnewOf_12 ?_
    refine th_ilt (tgt := 18) hx hb dX2_rootAnewOf_13 (by decide) (by omega) (by omega) (fun c_2 => ?_) (fun c_2 => by exfalso; omega)
    refine lv_iload_n hx hb dX2_rootAnewOf_18 rfl (lv_at hl 2 rfl) ?_
    refine lv_iconst (v := nI 1) hx hb dX2_rootAnewOf_19 (by decide) ?_
    refine th_igt (tgt := 30) hx hb dX2_rootAnewOf_20 (by decide) (by omega) (by omega) (fun c_3 => by exfalso; omega) (fun c_3 => ?_)
    refine lv_aload_n hx hb dX2_rootAnewOf_23 rfl (lv_at hl 0 rfl) ?_
    refine lv_iload_n hx hb dX2_rootAnewOf_24 rfl (lv_at hl 1 rfl) ?_
    refine th_iald hx hb hK hP 0 rfl (j := x) (by omega) (by omega) dX2_rootAnewOf_25 ?_
    refine th_callSN hx hb hml hown hts ⟨hK, hN⟩ hl hS (rest := []) (c_X5_leafSum l Y _ (f x)) ok_X5_leafSum (tn_2_50 hN) dX2_rootAnewOf_26 rfl rfl (Nat.le_of_ble_eq_true rfl) ⟨Nat.le_of_ble_eq_true rfl, Nat.le_of_ble_eq_true rfl⟩ ⟨Nat.le_of_ble_eq_true rfl, Nat.le_of_ble_eq_true rfl⟩ (fun _ h => h.elim) (th_kpi (fun locs hS => ?_))
    refine th_iret hx hb hr hlk hQ hS dX2_rootAnewOf_29 (Nat.le_of_ble_eq_true rfl) (Nat.le_of_ble_eq_true rfl) ?_
    obtain rfl : m0 = 1 := by omega
    exact ⟨by rw [th_rt_1], rfl⟩
  | succ k ih =>
    intro hk H a f hP x m0 d hd h1 hmk hx
    have h128 : 2 ^ (k + 1) ≤ 128 := Nat.le_trans (Nat.pow_le_pow_right (n := 2) (by decide) hk) (by decide)
    refine th_M.intro (by decide) (Nat.le_of_ble_eq_true rfl) ?_
    intro p e s m args below meth c ls Q hQ C hKN hl hS
    obtain ⟨hx, hb, hr, hml, hown, hts, hlk, hnm⟩ := C
    obtain ⟨hK, hN⟩ := hKN
    have hown : s.vm.findClass RX2 = some m.cls := hown
    have hl : lv_has ls 5 [(0, .ref a), (1, .int (nI x)), (2, .int (nI m0)), (3, .int (nI d))] := hl
    refine lv_iload_n hx hb dX2_rootAnewOf_0 rfl (lv_at hl 3 rfl) ?_
    refine lv_bipush (v := nI 7) hx hb dX2_rootAnewOf_1 (by decide) ?_
    refine th_igt (tgt := 16) hx hb dX2_rootAnewOf_3 (by decide) (by omega) (by omega) (fun c_1 => by exfalso; omega) (fun c_1 => ?_)
    refine lv_iload_n hx hb dX2_rootAnewOf_6 rfl (lv_at hl 1 rfl) ?_
    refine th_zlt (tgt := 16) hx hb dX2_rootAnewOf_7 (by decide) (by omega) ?_
    refine lv_iload_n hx hb dX2_rootAnewOf_10 rfl (lv_at hl 1 rfl) ?_
    refine lv_aload_n hx hb dX2_rootAnewOf_11 rfl (lv_at hl 0 rfl) ?_
    refine va_alen (v := nI 100) hx hb hK hP 0 0 rfl rfl rfl dX2_rootAnewOf_12 ?_
    refine th_ilt (tgt := 18) hx hb dX2_rootAnewOf_13 (by decide) (by omega) (by omega) (fun c_2 => ?_) (fun c_2 => by exfalso; omega)
    refine lv_iload_n hx hb dX2_rootAnewOf_18 rfl (lv_at hl 2 rfl) ?_
    refine lv_iconst (v := nI 1) hx hb dX2_rootAnewOf_19 (by decide) ?_
    refine th_igt (tgt := 30) hx hb dX2_rootAnewOf_20 (by decide) (by omega) (by omega) (fun c_3 => ?_) (fun c_3 => ?_)
    · skip
      have s1 := th_sp_lt (n := m0) (by omega)
      have s2 := th_sp_pos m0
      have s3 := th_sp_ge (n := m0) (by omega)
      have s4 := th_sp_le (n := m0) (k := k) (by omega) hmk
      refine lv_iload_n hx hb dX2_rootAnewOf_30 rfl (lv_at hl 2 rfl) ?_
      refine th_callS hx hb hml hown hts ⟨hK, hN⟩ hl hS (rest := []) (c_X2_greatestPowerBelow l Y _ m0 (by omega) (by omega)) ok_X2_greatestPowerBelow tw_2_129 dX2_rootAnewOf_31 rfl rfl (Nat.le_of_ble_eq_true rfl) ⟨by change 20 * _ + 1 ≤ 20 * _; omega, by change 8 + (_ + 11) + 400 * _ ≤ 400 * _; omega⟩ ⟨Nat.le_of_ble_eq_true rfl, Nat.le_of_ble_eq_true rfl⟩ (fun _ h => h.elim) (th_kpi (fun locs hS => ?_))
      refine lv_istore (lv' := [(4, .int (nI (th_sp m0))), (0, .ref a), (1, .int (nI x)), (2, .int (nI m0)), (3, .int (nI d))]) hx hb dX2_rootAnewOf_34 hl (by decide) rfl (fun ls hl => ?_)
      refine lv_aload_n hx hb dX2_rootAnewOf_36 rfl (lv_at hl 1 rfl) ?_
      refine lv_iload_n hx hb dX2_rootAnewOf_37 rfl (lv_at hl 2 rfl) ?_
      refine lv_iload hx hb dX2_rootAnewOf_38 (lv_at hl 0 rfl) ?_
      refine lv_iload_n hx hb dX2_rootAnewOf_40 rfl (lv_at hl 4 rfl) ?_
      refine lv_iconst (v := nI 1) hx hb dX2_rootAnewOf_41 (by decide) ?_
      refine lv_iadd hx hb dX2_rootAnewOf_42 ?_
      refine th_ti (nI_add _ _) ?_
      refine th_callS hx hb hml hown hts ⟨hK, hN⟩ hl hS (rest := []) (ih (by omega) _ a f hP x (th_sp m0) (d + 1) (by omega) (by omega) (by omega) (by omega)) ok_X2_rootAnewOf tw_2_126 dX2_rootAnewOf_43 rfl rfl (Nat.le_of_ble_eq_true rfl) ⟨by change 20 * _ + 1 ≤ 20 * _; omega, by change 8 + (_ + 11) + 400 * _ ≤ 400 * _; omega⟩ ⟨Nat.le_of_ble_eq_true rfl, Nat.le_of_ble_eq_true rfl⟩ (fun _ h => h.elim) (th_kpi (fun locs hS => ?_))
      refine lv_aload_n hx hb dX2_rootAnewOf_46 rfl (lv_at hl 1 rfl) ?_
      refine lv_iload_n hx hb dX2_rootAnewOf_47 rfl (lv_at hl 2 rfl) ?_
      refine lv_iload hx hb dX2_rootAnewOf_48 (lv_at hl 0 rfl) ?_
      refine lv_iadd hx hb dX2_rootAnewOf_50 ?_
      refine th_ti (nI_add _ _) ?_
      refine lv_iload_n hx hb dX2_rootAnewOf_51 rfl (lv_at hl 3 rfl) ?_
      refine lv_iload hx hb dX2_rootAnewOf_52 (lv_at hl 0 rfl) ?_
      refine lv_isub hx hb dX2_rootAnewOf_54 ?_
      refine th_ti (pk_sub (by omega)) ?_
      refine lv_iload_n hx hb dX2_rootAnewOf_55 rfl (lv_at hl 4 rfl) ?_
      refine lv_iconst (v := nI 1) hx hb dX2_rootAnewOf_56 (by decide) ?_
      refine lv_iadd hx hb dX2_rootAnewOf_57 ?_
      refine th_ti (nI_add _ _) ?_
      refine th_callS hx hb hml hown hts ⟨hK, hN⟩ hl hS (rest := [.int (th_rt f x (th_sp m0))]) (ih (by omega) _ a f hP (x + (th_sp m0)) (m0 - (th_sp m0)) (d + 1) (by omega) (by omega) (by omega) (by omega)) ok_X2_rootAnewOf tw_2_126 dX2_rootAnewOf_58 rfl rfl (Nat.le_of_ble_eq_true rfl) ⟨by change 20 * _ + 1 ≤ 20 * _; omega, by change 8 + (_ + 11) + 400 * _ ≤ 400 * _; omega⟩ ⟨Nat.le_of_ble_eq_true rfl, Nat.le_of_ble_eq_true rfl⟩ (fun _ h => h.elim) (th_kpi (fun locs hS => ?_))
      refine th_callSN hx hb hml hown hts ⟨hK, hN⟩ hl hS (rest := []) (c_X5_mix l Y _ (th_rt f x (th_sp m0)) (th_rt f (x + (th_sp m0)) (m0 - (th_sp m0)))) ok_X5_mix (tn_2_56 hN) dX2_rootAnewOf_61 rfl rfl (Nat.le_of_ble_eq_true rfl) ⟨by change 20 * _ + 1 ≤ 20 * _; omega, by change 8 + (_ + 11) + 400 * _ ≤ 400 * _; omega⟩ ⟨Nat.le_of_ble_eq_true rfl, Nat.le_of_ble_eq_true rfl⟩ (fun _ h => h.elim) (th_kpi (fun locs hS => ?_))
      refine th_iret hx hb hr hlk hQ hS dX2_rootAnewOf_64 (Nat.le_of_ble_eq_true rfl) (Nat.le_of_ble_eq_true rfl) ?_
      exact ⟨by rw [th_rt_s f x (show 2 ≤ m0 by omega)], rfl⟩
    refine lv_aload_n hx hb dX2_rootAnewOf_23 rfl (lv_at hl 0 rfl) ?_
    refine lv_iload_n hx hb dX2_rootAnewOf_24 rfl (lv_at hl 1 rfl) ?_
    refine th_iald hx hb hK hP 0 rfl (j := x) (by omega) (by omega) dX2_rootAnewOf_25 ?_
    refine th_callSN hx hb hml hown hts ⟨hK, hN⟩ hl hS (rest := []) (c_X5_leafSum l Y _ (f x)) ok_X5_leafSum (tn_2_50 hN) dX2_rootAnewOf_26 rfl rfl (Nat.le_of_ble_eq_true rfl) ⟨by change 20 * _ + 1 ≤ 20 * _; omega, by change 8 + (_ + 11) + 400 * _ ≤ 400 * _; omega⟩ ⟨Nat.le_of_ble_eq_true rfl, Nat.le_of_ble_eq_true rfl⟩ (fun _ h => h.elim) (th_kpi (fun locs hS => ?_))
    refine th_iret hx hb hr hlk hQ hS dX2_rootAnewOf_29 (Nat.le_of_ble_eq_true rfl) (Nat.le_of_ble_eq_true rfl) ?_
    obtain rfl : m0 = 1 := by omega
    exact ⟨by rw [th_rt_1], rfl⟩

set_option maxRecDepth 100000 in
set_option maxHeartbeats 4000000 in
theorem c_X2_rootFromValues (l : Launch) (Y : th_Y) (H : Heap) (v a b n : Nat) (f g : Nat → Int32) (hP : va_P Y.1 vwCl [(v, .inr (2, [.int (nI n), .ref a, .ref b])), (a, .inl (Y.2 0, 100, .inl f)), (b, .inl (Y.2 0, 256, .inl g))] H) (m0 : Nat) (hn : n ≤ 100) (hm : m0 ≤ n) : th_P l Y yX2_rootFromValues cX2_rootFromValues 2 (some .int) (th_rm 9 0 0) [.ref v, .int (nI m0)] H (fun r9 => r9 = some (.int (th_rt f 0 m0))) := by
  refine th_M.intro (by decide) (Nat.le_of_ble_eq_true rfl) ?_
  intro p e s m args below meth c ls Q hQ C hKN hl hS
  obtain ⟨hx, hb, hr, hml, hown, hts, hlk, hnm⟩ := C
  obtain ⟨hK, hN⟩ := hKN
  have hown : s.vm.findClass RX2 = some m.cls := hown
  have hl : lv_has ls 2 [(0, .ref v), (1, .int (nI m0))] := hl
  refine lv_iload_n hx hb dX2_rootFromValues_0 rfl (lv_at hl 1 rfl) ?_
  refine lv_iconst (v := nI 1) hx hb dX2_rootFromValues_1 (by decide) ?_
  refine th_ilt (tgt := 13) hx hb dX2_rootFromValues_2 (by decide) (by omega) (by omega) (fun c_1 => ?_) (fun c_1 => ?_)
  · skip
    refine lv_iconst (v := nI 0) hx hb dX2_rootFromValues_13 (by decide) ?_
    refine lv_goto (tgt := 27) hx hb dX2_rootFromValues_14 (by decide) ?_
    refine th_iret hx hb hr hlk hQ hS dX2_rootFromValues_27 (Nat.le_of_ble_eq_true rfl) (Nat.le_of_ble_eq_true rfl) ?_
    obtain rfl : m0 = 0 := by omega
    exact ⟨by rw [th_rt_0]; rfl, rfl⟩
  refine lv_iload_n hx hb dX2_rootFromValues_5 rfl (lv_at hl 1 rfl) ?_
  refine lv_aload_n hx hb dX2_rootFromValues_6 rfl (lv_at hl 0 rfl) ?_
  refine va_get (D := Y.1) (ci := 2) (v := .int (nI n)) (C := RX2) (T := TX2) (N := 3) hx hb hts inX2 hown hK hP 0 rfl rfl 0 (by decide) (hts _ tw_1_92) (fun _ h9 => h9) rfl dX2_rootFromValues_7 ?_
  refine th_ile (tgt := 17) hx hb dX2_rootFromValues_10 (by decide) (by omega) (by omega) (fun c_2 => ?_) (fun c_2 => by exfalso; omega)
  refine lv_aload_n hx hb dX2_rootFromValues_17 rfl (lv_at hl 0 rfl) ?_
  refine va_get (D := Y.1) (ci := 2) (v := .ref a) (C := RX2) (T := TX2) (N := 3) hx hb hts inX2 hown hK hP 0 rfl rfl 1 (by decide) (hts _ tw_1_95) (fun _ h9 => h9) rfl dX2_rootFromValues_18 ?_
  refine lv_iconst (v := nI 0) hx hb dX2_rootFromValues_21 (by decide) ?_
  refine lv_iload_n hx hb dX2_rootFromValues_22 rfl (lv_at hl 1 rfl) ?_
  refine lv_iconst (v := nI 0) hx hb dX2_rootFromValues_23 (by decide) ?_
  refine th_callS hx hb hml hown hts ⟨hK, hN⟩ hl hS (rest := []) (c_X2_rootAnewOf l Y 7 (by decide) _ a f (hP.sub (ws' := [(a, .inl (Y.2 0, 100, .inl f))]) [1] rfl) 0 m0 0 (by omega) (by omega) (by simp only [Nat.reducePow]; omega) (by omega)) ok_X2_rootAnewOf tw_2_126 dX2_rootFromValues_24 rfl rfl (Nat.le_of_ble_eq_true rfl) ⟨Nat.le_of_ble_eq_true rfl, Nat.le_of_ble_eq_true rfl⟩ ⟨Nat.le_of_ble_eq_true rfl, Nat.le_of_ble_eq_true rfl⟩ (fun _ h => h.elim) (th_kpi (fun locs hS => ?_))
  refine th_iret hx hb hr hlk hQ hS dX2_rootFromValues_27 (Nat.le_of_ble_eq_true rfl) (Nat.le_of_ble_eq_true rfl) ?_
  exact ⟨rfl, rfl⟩

set_option maxRecDepth 100000 in
set_option maxHeartbeats 4000000 in
theorem c_X2_add (l : Launch) (Y : th_Y) (H0 : Heap) (v a b n : Nat) (f g : Nat → Int32) (hP : va_P Y.1 vwCl [(v, .inr (2, [.int (nI n), .ref a, .ref b])), (a, .inl (Y.2 0, 100, .inl f)), (b, .inl (Y.2 0, 256, .inl g))] H0) (hD0 : va_D (fun _ => True) [(v, .inr (2, [.int (nI n), .ref a, .ref b])), (a, .inl (Y.2 0, 100, .inl f)), (b, .inl (Y.2 0, 256, .inl g))]) (x : Int32) (hn : n < 100) (hB : th_BI f g n) : th_M l Y yX2_add cX2_add 4 none (th_rm 1 0 0) [.ref v, .int x] H0 (fun z => z ∈ [v, a, b]) (fun r H' => r = none ∧ ∃ g', va_P Y.1 vwCl [(v, .inr (2, [.int (nI (n + 1)), .ref a, .ref b])), (a, .inl (Y.2 0, 100, .inl (upd f n x))), (b, .inl (Y.2 0, 256, .inl g'))] H' ∧ th_BI (upd f n x) g' (n + 1)) := by
  refine th_M.intro (by decide) (Nat.le_of_ble_eq_true rfl) ?_
  intro p e s m args below meth c ls Q hQ C hKN hl hS
  obtain ⟨hx, hb, hr, hml, hown, hts, hlk, hnm⟩ := C
  obtain ⟨hK, hN⟩ := hKN
  have hown : s.vm.findClass RX2 = some m.cls := hown
  have hl : lv_has ls 4 [(0, .ref v), (1, .int x)] := hl
  have hD : va_D (fun z => z ∈ [v, a, b]) [(v, .inr (2, [.int (nI n), .ref a, .ref b])), (a, .inl (Y.2 0, 100, .inl f)), (b, .inl (Y.2 0, 256, .inl g))] := th_mem hD0
  refine lv_aload_n hx hb dX2_add_0 rfl (lv_at hl 0 rfl) ?_
  refine va_get (D := Y.1) (ci := 2) (v := .int (nI n)) (C := RX2) (T := TX2) (N := 3) hx hb hts inX2 hown hK hP 0 rfl rfl 0 (by decide) (hts _ tw_1_92) (fun _ h9 => h9) rfl dX2_add_1 ?_
  refine th_zlt (tgt := 19) hx hb dX2_add_4 (by decide) (by omega) ?_
  refine lv_aload_n hx hb dX2_add_7 rfl (lv_at hl 0 rfl) ?_
  refine va_get (D := Y.1) (ci := 2) (v := .int (nI n)) (C := RX2) (T := TX2) (N := 3) hx hb hts inX2 hown hK hP 0 rfl rfl 0 (by decide) (hts _ tw_1_92) (fun _ h9 => h9) rfl dX2_add_8 ?_
  refine lv_aload_n hx hb dX2_add_11 rfl (lv_at hl 0 rfl) ?_
  refine va_get (D := Y.1) (ci := 2) (v := .ref a) (C := RX2) (T := TX2) (N := 3) hx hb hts inX2 hown hK hP 0 rfl rfl 1 (by decide) (hts _ tw_1_95) (fun _ h9 => h9) rfl dX2_add_12 ?_
  refine va_alen (v := nI 100) hx hb hK hP 1 0 rfl rfl rfl dX2_add_15 ?_
  refine th_ilt (tgt := 20) hx hb dX2_add_16 (by decide) (by omega) (by omega) (fun c_1 => ?_) (fun c_1 => by exfalso; omega)
  refine lv_sipush (v := nI 128) hx hb dX2_add_20 (by decide) ?_
  refine lv_aload_n hx hb dX2_add_23 rfl (lv_at hl 0 rfl) ?_
  refine va_get (D := Y.1) (ci := 2) (v := .int (nI n)) (C := RX2) (T := TX2) (N := 3) hx hb hts inX2 hown hK hP 0 rfl rfl 0 (by decide) (hts _ tw_1_92) (fun _ h9 => h9) rfl dX2_add_24 ?_
  refine lv_iadd hx hb dX2_add_27 ?_
  refine th_ti (nI_add _ _) ?_
  refine lv_istore_n (lv' := [(2, .int (nI (128 + n))), (0, .ref v), (1, .int x)]) hx hb dX2_add_28 rfl hl (by decide) rfl (fun ls hl => ?_)
  refine lv_aload_n hx hb dX2_add_29 rfl (lv_at hl 1 rfl) ?_
  refine va_get (D := Y.1) (ci := 2) (v := .ref a) (C := RX2) (T := TX2) (N := 3) hx hb hts inX2 hown hK hP 0 rfl rfl 1 (by decide) (hts _ tw_1_95) (fun _ h9 => h9) rfl dX2_add_30 ?_
  refine lv_aload_n hx hb dX2_add_33 rfl (lv_at hl 1 rfl) ?_
  refine va_get (D := Y.1) (ci := 2) (v := .int (nI n)) (C := RX2) (T := TX2) (N := 3) hx hb hts inX2 hown hK hP 0 rfl rfl 0 (by decide) (hts _ tw_1_92) (fun _ h9 => h9) rfl dX2_add_34 ?_
  refine lv_iload_n hx hb dX2_add_37 rfl (lv_at hl 2 rfl) ?_
  refine th_iast hx hb hK hP hD hS 1 rfl (j := n) (by omega) (by omega) dX2_add_38 (fun H locs hP hD hS => ?_)
  have hP : va_P Y.1 vwCl [(v, .inr (2, [.int (nI n), .ref a, .ref b])), (a, .inl (Y.2 0, 100, .inl (upd f n x))), (b, .inl (Y.2 0, 256, .inl g))] _ := hP
  have hD : va_D _ [(v, .inr (2, [.int (nI n), .ref a, .ref b])), (a, .inl (Y.2 0, 100, .inl (upd f n x))), (b, .inl (Y.2 0, 256, .inl g))] := hD
  refine lv_aload_n hx hb dX2_add_39 rfl (lv_at hl 1 rfl) ?_
  refine va_get (D := Y.1) (ci := 2) (v := .ref b) (C := RX2) (T := TX2) (N := 3) hx hb hts inX2 hown hK hP 0 rfl rfl 2 (by decide) (hts _ tw_1_96) (fun _ h9 => h9) rfl dX2_add_40 ?_
  refine lv_iload_n hx hb dX2_add_43 rfl (lv_at hl 0 rfl) ?_
  refine lv_iload_n hx hb dX2_add_44 rfl (lv_at hl 2 rfl) ?_
  refine th_callSN hx hb hml hown hts ⟨hK, hN⟩ hl hS (rest := [.int (nI (128 + n)), .ref b]) (c_X5_leafSum l Y _ x) ok_X5_leafSum (tn_2_50 hN) dX2_add_45 rfl rfl (Nat.le_of_ble_eq_true rfl) ⟨Nat.le_of_ble_eq_true rfl, Nat.le_of_ble_eq_true rfl⟩ ⟨Nat.le_of_ble_eq_true rfl, Nat.le_of_ble_eq_true rfl⟩ (fun _ h => h.elim) (th_kpi (fun locs hS => ?_))
  refine th_iast hx hb hK hP hD hS 2 rfl (j := (128 + n)) (by omega) (by omega) dX2_add_48 (fun H locs hP hD hS => ?_)
  have hP : va_P Y.1 vwCl [(v, .inr (2, [.int (nI n), .ref a, .ref b])), (a, .inl (Y.2 0, 100, .inl (upd f n x))), (b, .inl (Y.2 0, 256, .inl (upd g (128 + n) (th_ls x))))] _ := hP
  have hD : va_D _ [(v, .inr (2, [.int (nI n), .ref a, .ref b])), (a, .inl (Y.2 0, 100, .inl (upd f n x))), (b, .inl (Y.2 0, 256, .inl (upd g (128 + n) (th_ls x))))] := hD
  refine lv_aload_n hx hb dX2_add_49 rfl (lv_at hl 1 rfl) ?_
  refine lv_dup hx hb dX2_add_50 rfl ?_
  refine va_get (D := Y.1) (ci := 2) (v := .int (nI n)) (C := RX2) (T := TX2) (N := 3) hx hb hts inX2 hown hK hP 0 rfl rfl 0 (by decide) (hts _ tw_1_92) (fun _ h9 => h9) rfl dX2_add_51 ?_
  refine lv_iconst (v := nI 1) hx hb dX2_add_54 (by decide) ?_
  refine lv_iadd hx hb dX2_add_55 ?_
  refine th_ti (nI_add _ _) ?_
  refine va_put (D := Y.1) (ci := 2) (v := .int (nI (n + 1))) (ty := .int) (C := RX2) (T := TX2) (N := 3) hx hb hts inX2 tyX2 tyX2_ok nmX2 hown hK hP hD hS 0 rfl rfl 0 (by decide) (hts _ tw_1_92) (fun _ h9 => h9) rfl (by decide +kernel) rfl rfl (Nat.le_of_ble_eq_true rfl) dX2_add_56 (fun H locs hP hD hS => ?_)
  have hP : va_P Y.1 vwCl [(v, .inr (2, [.int (nI (n + 1)), .ref a, .ref b])), (a, .inl (Y.2 0, 100, .inl (upd f n x))), (b, .inl (Y.2 0, 256, .inl (upd g (128 + n) (th_ls x))))] _ := hP
  have hD : va_D _ [(v, .inr (2, [.int (nI (n + 1)), .ref a, .ref b])), (a, .inl (Y.2 0, 100, .inl (upd f n x))), (b, .inl (Y.2 0, 256, .inl (upd g (128 + n) (th_ls x))))] := hD
  refine lv_iconst (v := nI 0) hx hb dX2_add_59 (by decide) ?_
  refine lv_istore_n (lv' := [(3, .int (nI 0)), (2, .int (nI (128 + n))), (0, .ref v), (1, .int x)]) hx hb dX2_add_60 rfl hl (by decide) rfl (fun ls hl => ?_)
  have lp_2 : ∀ (n_3 : Nat) (q : Nat) (lev : Nat) (g : Nat → Int32) (H : Heap) (locs : List Loc) (ls : Array Slot), 7 - lev < n_3 → (lev ≤ 7) → (q = (128 + n) / 2 ^ lev) → ((n + 1) % 2 ^ lev = 0) → (th_BJ (upd f n x) g n lev) → va_P Y.1 vwCl [(v, .inr (2, [.int (nI (n + 1)), .ref a, .ref b])), (a, .inl (Y.2 0, 100, .inl (upd f n x))), (b, .inl (Y.2 0, 256, .inl g))] H → va_D (fun z => z ∈ [v, a, b]) [(v, .inr (2, [.int (nI (n + 1)), .ref a, .ref b])), (a, .inl (Y.2 0, 100, .inl (upd f n x))), (b, .inl (Y.2 0, 256, .inl g))] → va_S (fun z => z ∈ [v, a, b]) H0 H locs → lv_has ls 4 [(0, .ref v), (1, .int x), (2, .int (nI q)), (3, .int (nI lev))] → W p l e (th_rm 1 0 0) s m args below meth c H locs 0 0 Q (F0 m 61 ls []) := by
    intro n_3; induction n_3 with
    | zero => intros; exfalso; omega
    | succ n_3 ih =>
      intro q lev g H locs ls hmz hlev hq hm hJ hP hD hS hl
      have h5 : q ≤ 128 + n := by rw [hq]; exact Nat.div_le_self _ _
      refine lv_iload_n hx hb dX2_add_61 rfl (lv_at hl 3 rfl) ?_
      refine lv_bipush (v := nI 7) hx hb dX2_add_62 (by decide) ?_
      refine th_ige (tgt := 109) hx hb dX2_add_64 (by decide) (by omega) (by omega) (fun c_4 => ?_) (fun c_4 => ?_)
      · skip
        refine th_vret hx hb hr hlk hQ hS dX2_add_109 (Nat.le_of_ble_eq_true rfl) (Nat.le_of_ble_eq_true rfl) ?_
        exact ⟨rfl, g, hP, th_BJ_e hn hlev hJ hq (by omega) hm⟩
      refine lv_iload_n hx hb dX2_add_67 rfl (lv_at hl 2 rfl) ?_
      refine lv_iconst (v := nI 1) hx hb dX2_add_68 (by decide) ?_
      refine lv_iand hx hb dX2_add_69 ?_
      refine th_ti (show (nI q) &&& (nI 1) = nI (q % 2) from pk_andN (by omega) 1 (by decide)) ?_
      refine lv_iconst (v := nI 1) hx hb dX2_add_70 (by decide) ?_
      refine th_ine (tgt := 109) hx hb dX2_add_71 (by decide) (by omega) (by omega) (fun c_5 => ?_) (fun c_5 => ?_)
      · skip
        refine th_vret hx hb hr hlk hQ hS dX2_add_109 (Nat.le_of_ble_eq_true rfl) (Nat.le_of_ble_eq_true rfl) ?_
        exact ⟨rfl, g, hP, th_BJ_e hn hlev hJ hq (by omega) hm⟩
      obtain ⟨k1, k2, k3⟩ := th_BJ_s hn (show lev < 7 by omega) hJ hq c_5 hm
      refine lv_aload_n hx hb dX2_add_74 rfl (lv_at hl 0 rfl) ?_
      refine va_get (D := Y.1) (ci := 2) (v := .ref b) (C := RX2) (T := TX2) (N := 3) hx hb hts inX2 hown hK hP 0 rfl rfl 2 (by decide) (hts _ tw_1_96) (fun _ h9 => h9) rfl dX2_add_75 ?_
      refine lv_iload_n hx hb dX2_add_78 rfl (lv_at hl 2 rfl) ?_
      refine lv_iconst (v := nI 1) hx hb dX2_add_79 (by decide) ?_
      refine lv_ishr hx hb dX2_add_80 ?_
      refine th_ti (show (nI q) >>> ((nI 1) &&& 31) = nI (q / 2) from pk_shrN (by omega) _ 1 (by decide)) ?_
      refine lv_aload_n hx hb dX2_add_81 rfl (lv_at hl 0 rfl) ?_
      refine va_get (D := Y.1) (ci := 2) (v := .ref b) (C := RX2) (T := TX2) (N := 3) hx hb hts inX2 hown hK hP 0 rfl rfl 2 (by decide) (hts _ tw_1_96) (fun _ h9 => h9) rfl dX2_add_82 ?_
      refine lv_iload_n hx hb dX2_add_85 rfl (lv_at hl 2 rfl) ?_
      refine lv_iconst (v := nI 1) hx hb dX2_add_86 (by decide) ?_
      refine lv_isub hx hb dX2_add_87 ?_
      refine th_ti (pk_sub (by omega)) ?_
      refine th_iald hx hb hK hP 2 rfl (j := (q - 1)) (by omega) (by omega) dX2_add_88 ?_
      refine lv_aload_n hx hb dX2_add_89 rfl (lv_at hl 0 rfl) ?_
      refine va_get (D := Y.1) (ci := 2) (v := .ref b) (C := RX2) (T := TX2) (N := 3) hx hb hts inX2 hown hK hP 0 rfl rfl 2 (by decide) (hts _ tw_1_96) (fun _ h9 => h9) rfl dX2_add_90 ?_
      refine lv_iload_n hx hb dX2_add_93 rfl (lv_at hl 2 rfl) ?_
      refine th_iald hx hb hK hP 2 rfl (j := q) (by omega) (by omega) dX2_add_94 ?_
      refine th_callSN hx hb hml hown hts ⟨hK, hN⟩ hl hS (rest := [.int (nI (q / 2)), .ref b]) (c_X5_mix l Y _ (g (q - 1)) (g q)) ok_X5_mix (tn_2_56 hN) dX2_add_95 rfl rfl (Nat.le_of_ble_eq_true rfl) ⟨Nat.le_of_ble_eq_true rfl, Nat.le_of_ble_eq_true rfl⟩ ⟨Nat.le_of_ble_eq_true rfl, Nat.le_of_ble_eq_true rfl⟩ (fun _ h => h.elim) (th_kpi (fun locs hS => ?_))
      refine th_iast hx hb hK hP hD hS 2 rfl (j := (q / 2)) (by omega) (by omega) dX2_add_98 (fun H locs hP hD hS => ?_)
      have hP : va_P Y.1 vwCl [(v, .inr (2, [.int (nI (n + 1)), .ref a, .ref b])), (a, .inl (Y.2 0, 100, .inl (upd f n x))), (b, .inl (Y.2 0, 256, .inl (upd g (q / 2) (th_mx (g (q - 1)) (g q)))))] _ := hP
      have hD : va_D _ [(v, .inr (2, [.int (nI (n + 1)), .ref a, .ref b])), (a, .inl (Y.2 0, 100, .inl (upd f n x))), (b, .inl (Y.2 0, 256, .inl (upd g (q / 2) (th_mx (g (q - 1)) (g q)))))] := hD
      refine lv_iload_n hx hb dX2_add_99 rfl (lv_at hl 2 rfl) ?_
      refine lv_iconst (v := nI 1) hx hb dX2_add_100 (by decide) ?_
      refine lv_ishr hx hb dX2_add_101 ?_
      refine th_ti (show (nI q) >>> ((nI 1) &&& 31) = nI (q / 2) from pk_shrN (by omega) _ 1 (by decide)) ?_
      refine lv_istore_n (lv' := [(2, .int (nI (q / 2))), (0, .ref v), (1, .int x), (3, .int (nI lev))]) hx hb dX2_add_102 rfl hl (by decide) rfl (fun ls hl => ?_)
      refine lv_iinc (v := nI (lev + 1)) (lv' := [(3, .int (nI (lev + 1))), (2, .int (nI (q / 2))), (0, .ref v), (1, .int x)]) hx hb dX2_add_103 hl (k := 3) rfl (nI_add _ 1) (by decide) rfl (fun ls hl => ?_)
      refine lv_goto (tgt := 61) hx hb dX2_add_106 (by decide) ?_
      exact ih (q / 2) (lev + 1) (upd g (q / 2) (th_mx (g (q - 1)) (g q))) _ _ _ (by omega) (by omega) (k2) (k3) (k1) hP hD hS (lv_sub hl [2, 3, 1, 0] rfl)
  exact lp_2 ((7 - (0)) + 1) (128 + n) (0) (upd g (128 + n) (th_ls x)) _ _ _ (Nat.lt_succ_self _) (by omega) (by rw [Nat.pow_zero, Nat.div_one]) (by rw [Nat.pow_zero, Nat.mod_one]) (th_BJ_0 x hn hB) hP hD hS (lv_sub hl [2, 3, 1, 0] rfl)

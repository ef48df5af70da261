set_option maxRecDepth 100000 in
set_option maxHeartbeats 4000000 in
theorem c_X5_views (l : Launch) (Y : th_Y) (H0 : Heap) (ad : Nat → Nat) (S : th_S) (Vx B : Nat → Nat → Int32) (dsx kvx ks : Nat → Int32) (wy : Nat → Nat) (wz : Nat → Nat → Int32) (hI : th_I Y ad S Vx B dsx kvx ks wy wz H0) : th_M l Y yX5_views cX5_views 1 (some .int) (th_rm 6 8 400) [.ref (ad 0)] H0 (th_gA ad S.1 H0.size) (th_po Y (ad 0) (th_gA ad S.1 H0.size) (sp_views S)) := by
  refine th_M.intro (by decide) (Nat.le_of_ble_eq_true rfl) ?_
  intro p e s m args below meth c ls Q hQ C hKN hl hS
  obtain ⟨hx, hb, hr, hml, hown, hts, hlk, hnm⟩ := C
  obtain ⟨hK, hN⟩ := hKN
  have hown : s.vm.findClass RX5 = some m.cls := hown
  have hl : lv_has ls 1 [(0, .ref (ad 0))] := hl
  obtain ⟨hG, hJ, hv⟩ := hI
  have hv1 := hv.1
  refine lv_aload_n hx hb dX5_views_0 rfl (lv_at hl 0 rfl) ?_
  refine va_get (D := Y.1) (ci := 5) (v := .int (nI S.1)) (C := RX5) (T := TX5) (N := 5) hx hb hts inX5 hown hK (th_gO hG) 0 rfl rfl 4 (by decide) (hts _ tw_1_137) (fun _ h9 => h9) rfl dX5_views_1 ?_
  refine th_iret hx hb hr hlk hQ hS dX5_views_4 (Nat.le_of_ble_eq_true rfl) (Nat.le_of_ble_eq_true rfl) ?_
  show th_po Y _ _ (sp_views S) _ _
  unfold sp_views
  exact th_poI (th_GWs hG hJ hv)

set_option maxRecDepth 100000 in
set_option maxHeartbeats 4000000 in
theorem c_X5_sums (l : Launch) (Y : th_Y) (H0 : Heap) (ad : Nat → Nat) (S : th_S) (Vx B : Nat → Nat → Int32) (dsx kvx ks : Nat → Int32) (wy : Nat → Nat) (wz : Nat → Nat → Int32) (hI : th_I Y ad S Vx B dsx kvx ks wy wz H0) : th_M l Y yX5_sums cX5_sums 1 (some .int) (th_rm 6 8 400) [.ref (ad 0)] H0 (th_gA ad S.1 H0.size) (th_po Y (ad 0) (th_gA ad S.1 H0.size) (sp_sums S)) := by
  refine th_M.intro (by decide) (Nat.le_of_ble_eq_true rfl) ?_
  intro p e s m args below meth c ls Q hQ C hKN hl hS
  obtain ⟨hx, hb, hr, hml, hown, hts, hlk, hnm⟩ := C
  obtain ⟨hK, hN⟩ := hKN
  have hown : s.vm.findClass RX5 = some m.cls := hown
  have hl : lv_has ls 1 [(0, .ref (ad 0))] := hl
  obtain ⟨hG, hJ, hv⟩ := hI
  have hv1 := hv.1
  refine lv_aload_n hx hb dX5_sums_0 rfl (lv_at hl 0 rfl) ?_
  refine va_get (D := Y.1) (ci := 5) (v := .ref (ad 3)) (C := RX5) (T := TX5) (N := 5) hx hb hts inX5 hown hK (th_gO hG) 0 rfl rfl 2 (by decide) (hts _ tw_1_135) (fun _ h9 => h9) rfl dX5_sums_1 ?_
  refine va_getN (D := Y.1) (ci := 0) (v := .int (nI S.2.2.2.1)) (C := RX0) (T := TX0) (N := 3) hx hb hts inX0 hown hK (th_gDk hG) 0 rfl rfl 0 (by decide) (va_Nw.use rfl (tn_1_64 hN)) (fun _ h9 => h9) rfl dX5_sums_4 ?_
  refine th_iret hx hb hr hlk hQ hS dX5_sums_7 (Nat.le_of_ble_eq_true rfl) (Nat.le_of_ble_eq_true rfl) ?_
  show th_po Y _ _ (sp_sums S) _ _
  unfold sp_sums
  exact th_poI (th_GWs hG hJ hv)

set_option maxRecDepth 100000 in
set_option maxHeartbeats 4000000 in
theorem c_X5_mapRoot (l : Launch) (Y : th_Y) (H0 : Heap) (ad : Nat → Nat) (S : th_S) (Vx B : Nat → Nat → Int32) (dsx kvx ks : Nat → Int32) (wy : Nat → Nat) (wz : Nat → Nat → Int32) (hI : th_I Y ad S Vx B dsx kvx ks wy wz H0) : th_M l Y yX5_mapRoot cX5_mapRoot 1 (some .int) (th_rm 6 8 400) [.ref (ad 0)] H0 (th_gA ad S.1 H0.size) (th_po Y (ad 0) (th_gA ad S.1 H0.size) (sp_mapRoot S)) := by
  refine th_M.intro (by decide) (Nat.le_of_ble_eq_true rfl) ?_
  intro p e s m args below meth c ls Q hQ C hKN hl hS
  obtain ⟨hx, hb, hr, hml, hown, hts, hlk, hnm⟩ := C
  obtain ⟨hK, hN⟩ := hKN
  have hown : s.vm.findClass RX5 = some m.cls := hown
  have hl : lv_has ls 1 [(0, .ref (ad 0))] := hl
  obtain ⟨hG, hJ, hv⟩ := hI
  have hv1 := hv.1
  refine lv_aload_n hx hb dX5_mapRoot_0 rfl (lv_at hl 0 rfl) ?_
  refine va_get (D := Y.1) (ci := 5) (v := .ref (ad 9)) (C := RX5) (T := TX5) (N := 5) hx hb hts inX5 hown hK (th_gO hG) 0 rfl rfl 3 (by decide) (hts _ tw_1_136) (fun _ h9 => h9) rfl dX5_mapRoot_1 ?_
  refine th_callV hx hb hml hown hts ⟨hK, hN⟩ hl hS ((th_gMp hG) 0 _ rfl) rfl (rest := []) (c_X1_rootSum l Y _ (ad 9) (ad 10) (ad 11) kvx ks (th_gMp hG) hv.2.2.2.2.1) ok_X1_rootSum tw_1_161 dX5_mapRoot_4 rfl rfl (Nat.le_of_ble_eq_true rfl) ⟨Nat.le_of_ble_eq_true rfl, Nat.le_of_ble_eq_true rfl⟩ ⟨Nat.le_of_ble_eq_true rfl, Nat.le_of_ble_eq_true rfl⟩ (fun _ h => h.elim) (th_kpi (fun locs hS => ?_))
  refine th_ti (th_lvE hv.2.2.2.2.2.1 6 0 (by decide) (by decide)) ?_
  refine th_iret hx hb hr hlk hQ hS dX5_mapRoot_7 (Nat.le_of_ble_eq_true rfl) (Nat.le_of_ble_eq_true rfl) ?_
  show th_po Y _ _ (sp_mapRoot S) _ _
  unfold sp_mapRoot
  exact th_poI (th_GWs hG hJ hv)

set_option maxRecDepth 100000 in
set_option maxHeartbeats 4000000 in
theorem c_X5_show (l : Launch) (hl0 : l.stackTraces = false) (Y : th_Y) (H0 : Heap) (ad : Nat → Nat) (S : th_S) (Vx B : Nat → Nat → Int32) (dsx kvx ks : Nat → Int32) (wy : Nat → Nat) (wz : Nat → Nat → Int32) (hI : th_I Y ad S Vx B dsx kvx ks wy wz H0) (x1 x2 : Int32) : th_MX l Y yX5_show cX5_show 4 (some .boolean) (th_rm 6 8 400) [.ref (ad 0), .int x1, .int x2] H0 (th_gA ad S.1 H0.size) (th_po Y (ad 0) (th_gA ad S.1 H0.size) (sp_show S x1 x2)) (th_px Y ["java/lang/IndexOutOfBoundsException"] (ad 0) (th_gA ad S.1 H0.size) S (sp_show S x1 x2)) := by
  refine th_MX.intro (by decide) (Nat.le_of_ble_eq_true rfl) ?_
  intro p e s m args below meth c ls Q hQ C hKN hl hS hX
  obtain ⟨hx, hb, hr, hml, hown, hts, hlk, hnm⟩ := C
  obtain ⟨hK, hN⟩ := hKN
  have hown : s.vm.findClass RX5 = some m.cls := hown
  have hl : lv_has ls 4 [(0, .ref (ad 0)), (1, .int x1), (2, .int x2)] := hl
  obtain ⟨hG, hJ, hv⟩ := hI
  have hv1 := hv.1
  have hv12 := hv.2.2.1
  refine lv_aload_n hx hb dX5_show_0 rfl (lv_at hl 0 rfl) ?_
  refine lv_iload_n hx hb dX5_show_1 rfl (lv_at hl 1 rfl) ?_
  refine thx_callV hx hb hml hown hts ⟨hK, hN⟩ hl hS hX ((th_gO hG) 0 _ rfl) rfl (rest := []) (c_X5_watcherNumbered l hl0 Y _ ad S.1 S.2.1 Vx B S.2.2.2.1 dsx wy wz kvx ks S.2.2.2.2.2.2.1 S.2.2.2.2.2.2.2 hG hv.1.2 x1) ok_X5_watcherNumbered tw_3_88 dX5_show_2 rfl rfl (Nat.le_of_ble_eq_true rfl) ⟨(Nat.le_of_ble_eq_true rfl), (Nat.le_of_ble_eq_true rfl)⟩ ⟨(Nat.le_of_ble_eq_true rfl), (Nat.le_of_ble_eq_true rfl)⟩ (fun _ h => h.elim) ?_ ?_
  · rintro E9 ce9 q9 H9 locs9 ⟨rfl, hng9⟩ hsm9 hS9 hc9 hv9 hcl9
    refine thx_out hlk hX.2.2 hQ hS9 hc9 hv9 hcl9 (Nat.le_of_ble_eq_true rfl) (Nat.le_of_ble_eq_true rfl) ?_
    have q1 : ¬ th_ir x1 0 4 := hng9
    refine ⟨0, rfl, ?_, th_GWs (th_gkeep hG hsm9) hJ hv⟩
    unfold sp_show
    rw [th_ifF (fun z9 => q1 z9.1)]
    all_goals rfl
  · skip
    refine th_kpr (fun r9 locs hr9 hS => ?_)
    obtain ⟨j1, hj1, ux9, rfl⟩ := hr9
    subst ux9
    have q1 : th_ir (nI j1) 0 4 := th_irN (Nat.zero_le _) hj1
    have zj1 : th_ix (nI j1) = j1 := th_ixN (by have := hv.1; omega)
    obtain ⟨hkj1, haj1⟩ := hv.2.2.2.2.2.2 j1 hj1
    refine lv_astore_n (lv' := [(3, .ref (ad (12 + j1))), (0, .ref (ad 0)), (1, .int (nI j1)), (2, .int x2)]) hx hb dX5_show_5 rfl hl (by decide) rfl (fun ls hl => ?_)
    refine lv_aload_n hx hb dX5_show_6 rfl (lv_at hl 0 rfl) ?_
    refine lv_aload_n hx hb dX5_show_7 rfl (lv_at hl 1 rfl) ?_
    refine lv_iload_n hx hb dX5_show_8 rfl (lv_at hl 3 rfl) ?_
    refine thx_callV hx hb hml hown hts ⟨hK, hN⟩ hl hS hX ((th_gO hG) 0 _ rfl) rfl (rest := [.ref (ad (12 + j1))]) (c_X5_viewNumbered l hl0 Y _ ad S.1 S.2.1 Vx B S.2.2.2.1 dsx wy wz kvx ks S.2.2.2.2.2.2.1 S.2.2.2.2.2.2.2 hG hv.1.2 x2) ok_X5_viewNumbered tw_1_175 dX5_show_9 rfl rfl (Nat.le_of_ble_eq_true rfl) ⟨(Nat.le_of_ble_eq_true rfl), (Nat.le_of_ble_eq_true rfl)⟩ ⟨(Nat.le_of_ble_eq_true rfl), (Nat.le_of_ble_eq_true rfl)⟩ (fun _ h => h.elim) ?_ ?_
    · rintro E9 ce9 q9 H9 locs9 ⟨rfl, hng9⟩ hsm9 hS9 hc9 hv9 hcl9
      refine thx_out hlk hX.2.2 hQ hS9 hc9 hv9 hcl9 (Nat.le_of_ble_eq_true rfl) (Nat.le_of_ble_eq_true rfl) ?_
      have q2 : ¬ th_ir x2 0 (S.1) := hng9
      refine ⟨0, rfl, ?_, th_GWs (th_gkeep hG hsm9) hJ hv⟩
      unfold sp_show
      simp only [zj1]
      rw [th_ifF (fun z9 => q2 z9.2)]
      all_goals rfl
    · skip
      refine th_kpr (fun r9 locs hr9 hS => ?_)
      obtain ⟨j2, hj2, ux9, rfl⟩ := hr9
      subst ux9
      have q2 : th_ir (nI j2) 0 (S.1) := th_irN (Nat.zero_le _) hj2
      have zj2 : th_ix (nI j2) = j2 := th_ixN (by have := hv.1; omega)
      obtain ⟨hnj2, hBj2, hfj2⟩ := hv.2.1 j2 hj2
      rcases hkj1 with ⟨hKn, hW0⟩ | ⟨jk, kk9, hKs, hjk, hkk, hW0⟩
      · skip
        have hPw : va_P Y.1 vwCl [(ad (12 + j1), .inr (3, [.null, .int (S.2.2.2.2.2.2.2 j1 0), .int (S.2.2.2.2.2.2.2 j1 1), .int (S.2.2.2.2.2.2.2 j1 2), .int (S.2.2.2.2.2.2.2 j1 3), .int (S.2.2.2.2.2.2.2 j1 4)])), (ad (16 + 3 * j2), .inr (2, [.int (nI (S.2.1 j2)), .ref (ad (16 + 3 * j2 + 1)), .ref (ad (16 + 3 * j2 + 2))])), (ad (16 + 3 * j2 + 1), .inl (Y.2 0, 100, .inl (Vx j2))), (ad (16 + 3 * j2 + 2), .inl (Y.2 0, 256, .inl (B j2)))] H0 := by
          have h9 := th_gWV hG hj1 hj2
          rw [hKn] at h9
          exact h9
        refine th_callV hx hb hml hown hts ⟨hK, hN⟩ hl hS ((th_gW hG hj1) 0 _ rfl) rfl (rest := []) (c_X3_look_n l Y _ (ad (12 + j1)) (S.2.2.2.2.2.2.2 j1 1) (S.2.2.2.2.2.2.2 j1 2) (S.2.2.2.2.2.2.2 j1 3) (S.2.2.2.2.2.2.2 j1 4) (S.2.2.2.2.2.2.2 j1 0) (ad (16 + 3 * j2)) (ad (16 + 3 * j2 + 1)) (ad (16 + 3 * j2 + 2)) (S.2.1 j2) (Vx j2) (B j2) hPw (th_gD hJ [12 + j1, 16 + 3 * j2, 16 + 3 * j2 + 1, 16 + 3 * j2 + 2] (fun k9 hk9 => by simp only [List.mem_cons, List.not_mem_nil, or_false] at hk9; omega) (th_ndWV _ hj1) rfl) hnj2 (th_nm1 hv hj2) hBj2) ok_X3_look tw_3_93 dX5_show_12 rfl rfl (Nat.le_of_ble_eq_true rfl) ⟨Nat.le_of_ble_eq_true rfl, Nat.le_of_ble_eq_true rfl⟩ ⟨Nat.le_of_ble_eq_true rfl, Nat.le_of_ble_eq_true rfl⟩ (th_gAm (ad := ad) [12 + j1, 16 + 3 * j2, 16 + 3 * j2 + 1, 16 + 3 * j2 + 2] (fun k9 hk9 => by simp only [List.mem_cons, List.not_mem_nil, or_false] at hk9; omega)) (th_ki (fun r9 H locs hp hsm hS => ?_))
        rcases hp with ⟨htk, hr9, hPc⟩ | ⟨htk, hr9, hPc⟩
        · subst hr9
          have q3 : th_tk S j1 j2 := Or.inl hKn
          have hlo : th_lo S j1 = 0 := by
            unfold th_lo
            rw [hKn]
          rw [th_rtE hv hj2 (Nat.le_refl _), th_cfE (g := S.2.2.1 j2) _ (fun i9 hi9 => (hfj2 _ (by omega)).1)] at hPc
          have hG := th_guW (K9 := some j2) hG hJ hj2 hj1 hsm hPc
          refine thx_zret hx hb hr hlk hQ hS dX5_show_15 (Nat.le_of_ble_eq_true rfl) (Nat.le_of_ble_eq_true rfl) (by first | exact Or.inl rfl | exact Or.inr rfl | exact th_b01 _ | assumption) ?_
          refine ⟨_, rfl, ?_⟩
          unfold sp_show
          simp only [zj1, zj2]
          rw [th_ifT ⟨q1, q2⟩, th_ifT q3]
          rw [hlo]
          exact ⟨rfl, rfl, th_GWW hG hJ hv (Or.inr ⟨j2, S.2.1 j2, rfl, hj2, Nat.le_refl _, rfl⟩) haj1⟩
        · exact absurd trivial htk
      · skip
        have hPw : va_P Y.1 vwCl [(ad (12 + j1), .inr (3, [.ref (ad (16 + 3 * jk)), .int (nI kk9), .int (S.2.2.2.2.2.2.2 j1 1), .int (S.2.2.2.2.2.2.2 j1 2), .int (S.2.2.2.2.2.2.2 j1 3), .int (S.2.2.2.2.2.2.2 j1 4)])), (ad (16 + 3 * j2), .inr (2, [.int (nI (S.2.1 j2)), .ref (ad (16 + 3 * j2 + 1)), .ref (ad (16 + 3 * j2 + 2))])), (ad (16 + 3 * j2 + 1), .inl (Y.2 0, 100, .inl (Vx j2))), (ad (16 + 3 * j2 + 2), .inl (Y.2 0, 256, .inl (B j2)))] H0 := by
          have h9 := th_gWV hG hj1 hj2
          rw [hKs, hW0] at h9
          exact h9
        have hn9 := (hv.2.1 jk hjk).1
        refine th_callV hx hb hml hown hts ⟨hK, hN⟩ hl hS ((th_gW hG hj1) 0 _ rfl) rfl (rest := []) (c_X3_look_s l Y _ (ad (12 + j1)) (S.2.2.2.2.2.2.2 j1 1) (S.2.2.2.2.2.2.2 j1 2) (S.2.2.2.2.2.2.2 j1 3) (S.2.2.2.2.2.2.2 j1 4) (ad (16 + 3 * jk)) kk9 (ad (16 + 3 * j2)) (ad (16 + 3 * j2 + 1)) (ad (16 + 3 * j2 + 2)) (S.2.1 j2) (Vx j2) (B j2) hPw (th_gD hJ [12 + j1, 16 + 3 * j2, 16 + 3 * j2 + 1, 16 + 3 * j2 + 2] (fun k9 hk9 => by simp only [List.mem_cons, List.not_mem_nil, or_false] at hk9; omega) (th_ndWV _ hj1) rfl) hnj2 (th_nm1 hv hj2) hBj2 (by omega)) ok_X3_look tw_3_93 dX5_show_12 rfl rfl (Nat.le_of_ble_eq_true rfl) ⟨Nat.le_of_ble_eq_true rfl, Nat.le_of_ble_eq_true rfl⟩ ⟨Nat.le_of_ble_eq_true rfl, Nat.le_of_ble_eq_true rfl⟩ (th_gAm (ad := ad) [12 + j1, 16 + 3 * j2, 16 + 3 * j2 + 1, 16 + 3 * j2 + 2] (fun k9 hk9 => by simp only [List.mem_cons, List.not_mem_nil, or_false] at hk9; omega)) (th_ki (fun r9 H locs hp hsm hS => ?_))
        rcases hp with ⟨htk, hr9, hPc⟩ | ⟨htk, hr9, hPc⟩
        · subst hr9
          have q3 : th_tk S j1 j2 := Or.inr (by rw [hW0, th_ixN (by omega), ← th_rtE hv hj2 htk.1]; exact htk)
          have hlo : th_lo S j1 = kk9 := by
            unfold th_lo
            rw [hKs]
            show th_ix (S.2.2.2.2.2.2.2 j1 0) = kk9
            rw [hW0, th_ixN (by omega)]
          rw [th_rtE hv hj2 (Nat.le_refl _), th_cfE (g := S.2.2.1 j2) _ (fun i9 hi9 => (hfj2 _ (by omega)).1)] at hPc
          have hG := th_guW (K9 := some j2) hG hJ hj2 hj1 hsm hPc
          refine thx_zret hx hb hr hlk hQ hS dX5_show_15 (Nat.le_of_ble_eq_true rfl) (Nat.le_of_ble_eq_true rfl) (by first | exact Or.inl rfl | exact Or.inr rfl | exact th_b01 _ | assumption) ?_
          refine ⟨_, rfl, ?_⟩
          unfold sp_show
          simp only [zj1, zj2]
          rw [th_ifT ⟨q1, q2⟩, th_ifT q3]
          rw [hlo]
          exact ⟨rfl, rfl, th_GWW hG hJ hv (Or.inr ⟨j2, S.2.1 j2, rfl, hj2, Nat.le_refl _, rfl⟩) haj1⟩
        · subst hr9
          have q3 : ¬ th_tk S j1 j2 := fun z9 => z9.elim (fun z8 => by rw [hKs] at z8; cases z8) (fun z8 => htk (by rw [hW0, th_ixN (by omega)] at z8; exact ⟨z8.1, (th_rtE hv hj2 z8.1).trans z8.2⟩))
          rw [← hW0] at hPc
          have hG := th_guW (K9 := some jk) hG hJ hj2 hj1 hsm hPc
          refine thx_zret hx hb hr hlk hQ hS dX5_show_15 (Nat.le_of_ble_eq_true rfl) (Nat.le_of_ble_eq_true rfl) (by first | exact Or.inl rfl | exact Or.inr rfl | exact th_b01 _ | assumption) ?_
          refine ⟨_, rfl, ?_⟩
          unfold sp_show
          simp only [zj1, zj2]
          rw [th_ifT ⟨q1, q2⟩, th_ifF (fun z9 => q3 z9)]
          rw [hKs]
          exact ⟨rfl, rfl, th_GWW hG hJ hv (Or.inr ⟨jk, kk9, rfl, hjk, hkk, hW0⟩) (Or.inr rfl)⟩

set_option maxRecDepth 100000 in
set_option maxHeartbeats 4000000 in
theorem c_X5_gossip (l : Launch) (hl0 : l.stackTraces = false) (Y : th_Y) (H0 : Heap) (ad : Nat → Nat) (S : th_S) (Vx B : Nat → Nat → Int32) (dsx kvx ks : Nat → Int32) (wy : Nat → Nat) (wz : Nat → Nat → Int32) (hI : th_I Y ad S Vx B dsx kvx ks wy wz H0) (x1 x2 : Int32) : th_MX l Y yX5_gossip cX5_gossip 6 (some .boolean) (th_rm 6 8 400) [.ref (ad 0), .int x1, .int x2] H0 (th_gA ad S.1 H0.size) (th_po Y (ad 0) (th_gA ad S.1 H0.size) (sp_gossip S x1 x2)) (th_px Y ["java/lang/IndexOutOfBoundsException"] (ad 0) (th_gA ad S.1 H0.size) S (sp_gossip S x1 x2)) := by
  refine th_MX.intro (by decide) (Nat.le_of_ble_eq_true rfl) ?_
  intro p e s m args below meth c ls Q hQ C hKN hl hS hX
  obtain ⟨hx, hb, hr, hml, hown, hts, hlk, hnm⟩ := C
  obtain ⟨hK, hN⟩ := hKN
  have hown : s.vm.findClass RX5 = some m.cls := hown
  have hl : lv_has ls 6 [(0, .ref (ad 0)), (1, .int x1), (2, .int x2)] := hl
  obtain ⟨hG, hJ, hv⟩ := hI
  have hv1 := hv.1
  have hv12 := hv.2.2.1
  refine lv_aload_n hx hb dX5_gossip_0 rfl (lv_at hl 0 rfl) ?_
  refine lv_iload_n hx hb dX5_gossip_1 rfl (lv_at hl 1 rfl) ?_
  refine thx_callV hx hb hml hown hts ⟨hK, hN⟩ hl hS hX ((th_gO hG) 0 _ rfl) rfl (rest := []) (c_X5_watcherNumbered l hl0 Y _ ad S.1 S.2.1 Vx B S.2.2.2.1 dsx wy wz kvx ks S.2.2.2.2.2.2.1 S.2.2.2.2.2.2.2 hG hv.1.2 x1) ok_X5_watcherNumbered tw_3_88 dX5_gossip_2 rfl rfl (Nat.le_of_ble_eq_true rfl) ⟨(Nat.le_of_ble_eq_true rfl), (Nat.le_of_ble_eq_true rfl)⟩ ⟨(Nat.le_of_ble_eq_true rfl), (Nat.le_of_ble_eq_true rfl)⟩ (fun _ h => h.elim) ?_ ?_
  · rintro E9 ce9 q9 H9 locs9 ⟨rfl, hng9⟩ hsm9 hS9 hc9 hv9 hcl9
    refine thx_out hlk hX.2.2 hQ hS9 hc9 hv9 hcl9 (Nat.le_of_ble_eq_true rfl) (Nat.le_of_ble_eq_true rfl) ?_
    have q1 : ¬ th_ir x1 0 4 := hng9
    refine ⟨0, rfl, ?_, th_GWs (th_gkeep hG hsm9) hJ hv⟩
    unfold sp_gossip
    rw [th_ifF (fun z9 => q1 z9.1)]
    all_goals rfl
  · skip
    refine th_kpr (fun r9 locs hr9 hS => ?_)
    obtain ⟨j1, hj1, ux9, rfl⟩ := hr9
    subst ux9
    have q1 : th_ir (nI j1) 0 4 := th_irN (Nat.zero_le _) hj1
    have zj1 : th_ix (nI j1) = j1 := th_ixN (by have := hv.1; omega)
    obtain ⟨hkj1, haj1⟩ := hv.2.2.2.2.2.2 j1 hj1
    refine lv_astore_n (lv' := [(3, .ref (ad (12 + j1))), (0, .ref (ad 0)), (1, .int (nI j1)), (2, .int x2)]) hx hb dX5_gossip_5 rfl hl (by decide) rfl (fun ls hl => ?_)
    refine lv_aload_n hx hb dX5_gossip_6 rfl (lv_at hl 1 rfl) ?_
    refine lv_iload_n hx hb dX5_gossip_7 rfl (lv_at hl 3 rfl) ?_
    refine thx_callV hx hb hml hown hts ⟨hK, hN⟩ hl hS hX ((th_gO hG) 0 _ rfl) rfl (rest := []) (c_X5_watcherNumbered l hl0 Y _ ad S.1 S.2.1 Vx B S.2.2.2.1 dsx wy wz kvx ks S.2.2.2.2.2.2.1 S.2.2.2.2.2.2.2 hG hv.1.2 x2) ok_X5_watcherNumbered tw_3_88 dX5_gossip_8 rfl rfl (Nat.le_of_ble_eq_true rfl) ⟨(Nat.le_of_ble_eq_true rfl), (Nat.le_of_ble_eq_true rfl)⟩ ⟨(Nat.le_of_ble_eq_true rfl), (Nat.le_of_ble_eq_true rfl)⟩ (fun _ h => h.elim) ?_ ?_
    · rintro E9 ce9 q9 H9 locs9 ⟨rfl, hng9⟩ hsm9 hS9 hc9 hv9 hcl9
      refine thx_out hlk hX.2.2 hQ hS9 hc9 hv9 hcl9 (Nat.le_of_ble_eq_true rfl) (Nat.le_of_ble_eq_true rfl) ?_
      have q2 : ¬ th_ir x2 0 4 := hng9
      refine ⟨0, rfl, ?_, th_GWs (th_gkeep hG hsm9) hJ hv⟩
      unfold sp_gossip
      simp only [zj1]
      rw [th_ifF (fun z9 => q2 z9.2)]
      all_goals rfl
    · skip
      refine th_kpr (fun r9 locs hr9 hS => ?_)
      obtain ⟨j2, hj2, ux9, rfl⟩ := hr9
      subst ux9
      have q2 : th_ir (nI j2) 0 4 := th_irN (Nat.zero_le _) hj2
      have zj2 : th_ix (nI j2) = j2 := th_ixN (by have := hv.1; omega)
      obtain ⟨hkj2, haj2⟩ := hv.2.2.2.2.2.2 j2 hj2
      refine lv_astore (lv' := [(4, .ref (ad (12 + j2))), (3, .ref (ad (12 + j1))), (0, .ref (ad 0)), (1, .int (nI j1)), (2, .int (nI j2))]) hx hb dX5_gossip_11 hl (by decide) rfl (fun ls hl => ?_)
      refine lv_iload_n hx hb dX5_gossip_13 rfl (lv_at hl 3 rfl) ?_
      refine lv_iload_n hx hb dX5_gossip_14 rfl (lv_at hl 4 rfl) ?_
      refine th_ieq (tgt := 27) hx hb dX5_gossip_15 (by decide) (by omega) (by omega) (fun c_1 => ?_) (fun c_1 => ?_)
      · skip
        have q3 : th_ft S j1 j2 := Or.inl c_1
        refine lv_iconst (v := nI 1) hx hb dX5_gossip_27 (by decide) ?_
        refine lv_goto (tgt := 32) hx hb dX5_gossip_28 (by decide) ?_
        refine lv_istore (lv' := [(5, .int (nI 1)), (4, .ref (ad (12 + j2))), (3, .ref (ad (12 + j1))), (0, .ref (ad 0)), (1, .int (nI j1)), (2, .int (nI j2))]) hx hb dX5_gossip_32 hl (by decide) rfl (fun ls hl => ?_)
        refine lv_iload hx hb dX5_gossip_34 (lv_at hl 0 rfl) ?_
        refine th_zne (tgt := 50) hx hb dX5_gossip_36 (by decide) (by omega) (fun c_2 => ?_) (fun c_2 => by exfalso; omega)
        refine lv_iload hx hb dX5_gossip_50 (lv_at hl 0 rfl) ?_
        refine thx_zret hx hb hr hlk hQ hS dX5_gossip_52 (Nat.le_of_ble_eq_true rfl) (Nat.le_of_ble_eq_true rfl) (by first | exact Or.inl rfl | exact Or.inr rfl | exact th_b01 _ | assumption) ?_
        refine ⟨_, rfl, ?_⟩
        unfold sp_gossip
        simp only [zj1, zj2]
        rw [th_ifT ⟨q1, q2⟩, th_ifT q3]
        exact ⟨rfl, rfl, th_GWs hG hJ hv⟩
      refine lv_aload_n hx hb dX5_gossip_18 rfl (lv_at hl 1 rfl) ?_
      refine lv_aload hx hb dX5_gossip_19 (lv_at hl 0 rfl) ?_
      rcases hkj1 with ⟨hKn, hW0⟩ | ⟨jk, kk9, hKs, hjk, hkk, hW0⟩
      · skip
        have hPw : va_P Y.1 vwCl [(ad (12 + j1), .inr (3, [.null, .int (S.2.2.2.2.2.2.2 j1 0), .int (S.2.2.2.2.2.2.2 j1 1), .int (S.2.2.2.2.2.2.2 j1 2), .int (S.2.2.2.2.2.2.2 j1 3), .int (S.2.2.2.2.2.2.2 j1 4)]))] H0 := by
          have h9 := th_gW hG hj1
          rw [hKn] at h9
          exact h9
        refine th_callV hx hb hml hown hts ⟨hK, hN⟩ hl hS ((th_gW hG hj1) 0 _ rfl) rfl (rest := []) (c_X3_fits_n l Y _ (ad (12 + j1)) (S.2.2.2.2.2.2.2 j1 1) (S.2.2.2.2.2.2.2 j1 2) (S.2.2.2.2.2.2.2 j1 3) (S.2.2.2.2.2.2.2 j1 4) (S.2.2.2.2.2.2.2 j1 0) hPw (ad (12 + j2))) ok_X3_fits tw_3_110 dX5_gossip_21 rfl rfl (Nat.le_of_ble_eq_true rfl) ⟨Nat.le_of_ble_eq_true rfl, Nat.le_of_ble_eq_true rfl⟩ ⟨Nat.le_of_ble_eq_true rfl, Nat.le_of_ble_eq_true rfl⟩ (fun _ h => h.elim) (th_kpi (fun locs hS => ?_))
        have q3 : th_ft S j1 j2 := Or.inr (fun i9 j9 hi9 hj9 => by rw [hKn] at hi9; cases hi9)
        refine th_zeq (tgt := 31) hx hb dX5_gossip_24 (by decide) (by omega) (fun c_3 => by exfalso; omega) (fun c_3 => ?_)
        refine lv_iconst (v := nI 1) hx hb dX5_gossip_27 (by decide) ?_
        refine lv_goto (tgt := 32) hx hb dX5_gossip_28 (by decide) ?_
        refine lv_istore (lv' := [(5, .int (nI 1)), (4, .ref (ad (12 + j2))), (3, .ref (ad (12 + j1))), (0, .ref (ad 0)), (1, .int (nI j1)), (2, .int (nI j2))]) hx hb dX5_gossip_32 hl (by decide) rfl (fun ls hl => ?_)
        refine lv_iload hx hb dX5_gossip_34 (lv_at hl 0 rfl) ?_
        refine th_zne (tgt := 50) hx hb dX5_gossip_36 (by decide) (by omega) (fun c_4 => ?_) (fun c_4 => by exfalso; omega)
        refine lv_iload hx hb dX5_gossip_50 (lv_at hl 0 rfl) ?_
        refine thx_zret hx hb hr hlk hQ hS dX5_gossip_52 (Nat.le_of_ble_eq_true rfl) (Nat.le_of_ble_eq_true rfl) (by first | exact Or.inl rfl | exact Or.inr rfl | exact th_b01 _ | assumption) ?_
        refine ⟨_, rfl, ?_⟩
        unfold sp_gossip
        simp only [zj1, zj2]
        rw [th_ifT ⟨q1, q2⟩, th_ifT q3]
        exact ⟨rfl, rfl, th_GWs hG hJ hv⟩
      · rcases hkj2 with ⟨hKm, hWm⟩ | ⟨jm, km9, hKm, hjm, hkm, hWm⟩
        · skip
          have hPw : va_P Y.1 vwCl [(ad (12 + j1), .inr (3, [.ref (ad (16 + 3 * jk)), .int (nI kk9), .int (S.2.2.2.2.2.2.2 j1 1), .int (S.2.2.2.2.2.2.2 j1 2), .int (S.2.2.2.2.2.2.2 j1 3), .int (S.2.2.2.2.2.2.2 j1 4)])), (ad (12 + j2), .inr (3, [.null, .int (S.2.2.2.2.2.2.2 j2 0), .int (S.2.2.2.2.2.2.2 j2 1), .int (S.2.2.2.2.2.2.2 j2 2), .int (S.2.2.2.2.2.2.2 j2 3), .int (S.2.2.2.2.2.2.2 j2 4)]))] H0 := by
            have h9 := th_gW2 hG hj1 hj2
            rw [hKs, hKm, hW0] at h9
            exact h9
          refine th_callV hx hb hml hown hts ⟨hK, hN⟩ hl hS ((th_gW hG hj1) 0 _ rfl) rfl (rest := []) (c_X3_fits_m l Y _ (ad (12 + j1)) (S.2.2.2.2.2.2.2 j1 1) (S.2.2.2.2.2.2.2 j1 2) (S.2.2.2.2.2.2.2 j1 3) (S.2.2.2.2.2.2.2 j1 4) (ad (16 + 3 * jk)) kk9 (ad (12 + j2)) (S.2.2.2.2.2.2.2 j2 1) (S.2.2.2.2.2.2.2 j2 2) (S.2.2.2.2.2.2.2 j2 3) (S.2.2.2.2.2.2.2 j2 4) (S.2.2.2.2.2.2.2 j2 0) hPw) ok_X3_fits tw_3_110 dX5_gossip_21 rfl rfl (Nat.le_of_ble_eq_true rfl) ⟨Nat.le_of_ble_eq_true rfl, Nat.le_of_ble_eq_true rfl⟩ ⟨Nat.le_of_ble_eq_true rfl, Nat.le_of_ble_eq_true rfl⟩ (fun _ h => h.elim) (th_kpi (fun locs hS => ?_))
          have q3 : th_ft S j1 j2 := Or.inr (fun i9 j9 hi9 hj9 => by rw [hKm] at hj9; cases hj9)
          refine th_zeq (tgt := 31) hx hb dX5_gossip_24 (by decide) (by omega) (fun c_5 => by exfalso; omega) (fun c_5 => ?_)
          refine lv_iconst (v := nI 1) hx hb dX5_gossip_27 (by decide) ?_
          refine lv_goto (tgt := 32) hx hb dX5_gossip_28 (by decide) ?_
          refine lv_istore (lv' := [(5, .int (nI 1)), (4, .ref (ad (12 + j2))), (3, .ref (ad (12 + j1))), (0, .ref (ad 0)), (1, .int (nI j1)), (2, .int (nI j2))]) hx hb dX5_gossip_32 hl (by decide) rfl (fun ls hl => ?_)
          refine lv_iload hx hb dX5_gossip_34 (lv_at hl 0 rfl) ?_
          refine th_zne (tgt := 50) hx hb dX5_gossip_36 (by decide) (by omega) (fun c_6 => ?_) (fun c_6 => by exfalso; omega)
          refine lv_iload hx hb dX5_gossip_50 (lv_at hl 0 rfl) ?_
          refine thx_zret hx hb hr hlk hQ hS dX5_gossip_52 (Nat.le_of_ble_eq_true rfl) (Nat.le_of_ble_eq_true rfl) (by first | exact Or.inl rfl | exact Or.inr rfl | exact th_b01 _ | assumption) ?_
          refine ⟨_, rfl, ?_⟩
          unfold sp_gossip
          simp only [zj1, zj2]
          rw [th_ifT ⟨q1, q2⟩, th_ifT q3]
          exact ⟨rfl, rfl, th_GWs hG hJ hv⟩
        · skip
          have hPw : va_P Y.1 vwCl [(ad (12 + j1), .inr (3, [.ref (ad (16 + 3 * jk)), .int (nI kk9), .int (S.2.2.2.2.2.2.2 j1 1), .int (S.2.2.2.2.2.2.2 j1 2), .int (S.2.2.2.2.2.2.2 j1 3), .int (S.2.2.2.2.2.2.2 j1 4)])), (ad (12 + j2), .inr (3, [.ref (ad (16 + 3 * jm)), .int (nI km9), .int (S.2.2.2.2.2.2.2 j2 1), .int (S.2.2.2.2.2.2.2 j2 2), .int (S.2.2.2.2.2.2.2 j2 3), .int (S.2.2.2.2.2.2.2 j2 4)])), (ad (16 + 3 * jk), .inr (2, [.int (nI (S.2.1 jk)), .ref (ad (16 + 3 * jk + 1)), .ref (ad (16 + 3 * jk + 2))])), (ad (16 + 3 * jk + 1), .inl (Y.2 0, 100, .inl (Vx jk))), (ad (16 + 3 * jk + 2), .inl (Y.2 0, 256, .inl (B jk))), (ad (16 + 3 * jm), .inr (2, [.int (nI (S.2.1 jm)), .ref (ad (16 + 3 * jm + 1)), .ref (ad (16 + 3 * jm + 2))])), (ad (16 + 3 * jm + 1), .inl (Y.2 0, 100, .inl (Vx jm))), (ad (16 + 3 * jm + 2), .inl (Y.2 0, 256, .inl (B jm)))] H0 := by
            have h9 := th_gWW hG hj1 hj2 hjk hjm
            rw [hKs, hKm, hW0, hWm] at h9
            exact h9
          refine th_callV hx hb hml hown hts ⟨hK, hN⟩ hl hS ((th_gW hG hj1) 0 _ rfl) rfl (rest := []) (c_X3_fits_s l Y _ (ad (12 + j1)) (S.2.2.2.2.2.2.2 j1 1) (S.2.2.2.2.2.2.2 j1 2) (S.2.2.2.2.2.2.2 j1 3) (S.2.2.2.2.2.2.2 j1 4) kk9 (ad (12 + j2)) (S.2.2.2.2.2.2.2 j2 1) (S.2.2.2.2.2.2.2 j2 2) (S.2.2.2.2.2.2.2 j2 3) (S.2.2.2.2.2.2.2 j2 4) km9 (ad (16 + 3 * jk)) (ad (16 + 3 * jk + 1)) (ad (16 + 3 * jk + 2)) (S.2.1 jk) (ad (16 + 3 * jm)) (ad (16 + 3 * jm + 1)) (ad (16 + 3 * jm + 2)) (S.2.1 jm) (Vx jk) (B jk) (Vx jm) (B jm) hPw (hv.2.1 jk hjk).1 (hv.2.1 jm hjm).1 (hv.2.1 jk hjk).2.1 (hv.2.1 jm hjm).2.1 hkk hkm) ok_X3_fits tw_3_110 dX5_gossip_21 rfl rfl (Nat.le_of_ble_eq_true rfl) ⟨Nat.le_of_ble_eq_true rfl, Nat.le_of_ble_eq_true rfl⟩ ⟨Nat.le_of_ble_eq_true rfl, Nat.le_of_ble_eq_true rfl⟩ (fun _ h => h.elim) (th_kpi (fun locs hS => ?_))
          have hk9a := (hv.2.1 jk hjk).1
          have hk9b := (hv.2.1 jm hjm).1
          by_cases hP9 : (km9 ≤ kk9 → th_rt (Vx jk) 0 km9 = S.2.2.2.2.2.2.2 j2 1) ∧ (¬ km9 ≤ kk9 → th_rt (Vx jm) 0 kk9 = S.2.2.2.2.2.2.2 j1 1)
          · rw [th_bT hP9]
            have q3 : th_ft S j1 j2 := Or.inr (fun i9 j9 hi9 hj9 => by
              rw [hKs] at hi9
              rw [hKm] at hj9
              cases hi9
              cases hj9
              rw [hW0, hWm, th_ixN (by omega), th_ixN (by omega)]
              exact ⟨fun z9 => (th_rtE hv hjk (by omega)).symm.trans (hP9.1 z9), fun z9 => (th_rtE hv hjm (by omega)).symm.trans (hP9.2 z9)⟩)
            refine th_zeq (tgt := 31) hx hb dX5_gossip_24 (by decide) (by omega) (fun c_7 => by exfalso; omega) (fun c_7 => ?_)
            refine lv_iconst (v := nI 1) hx hb dX5_gossip_27 (by decide) ?_
            refine lv_goto (tgt := 32) hx hb dX5_gossip_28 (by decide) ?_
            refine lv_istore (lv' := [(5, .int (nI 1)), (4, .ref (ad (12 + j2))), (3, .ref (ad (12 + j1))), (0, .ref (ad 0)), (1, .int (nI j1)), (2, .int (nI j2))]) hx hb dX5_gossip_32 hl (by decide) rfl (fun ls hl => ?_)
            refine lv_iload hx hb dX5_gossip_34 (lv_at hl 0 rfl) ?_
            refine th_zne (tgt := 50) hx hb dX5_gossip_36 (by decide) (by omega) (fun c_8 => ?_) (fun c_8 => by exfalso; omega)
            refine lv_iload hx hb dX5_gossip_50 (lv_at hl 0 rfl) ?_
            refine thx_zret hx hb hr hlk hQ hS dX5_gossip_52 (Nat.le_of_ble_eq_true rfl) (Nat.le_of_ble_eq_true rfl) (by first | exact Or.inl rfl | exact Or.inr rfl | exact th_b01 _ | assumption) ?_
            refine ⟨_, rfl, ?_⟩
            unfold sp_gossip
            simp only [zj1, zj2]
            rw [th_ifT ⟨q1, q2⟩, th_ifT q3]
            exact ⟨rfl, rfl, th_GWs hG hJ hv⟩
          · rw [th_bF hP9]
            have q3 : ¬ th_ft S j1 j2 := fun z9 => z9.elim (fun z8 => c_1 z8) (fun z8 => hP9 (by
              have z7 := z8 jk jm hKs hKm
              rw [hW0, hWm, th_ixN (by omega), th_ixN (by omega)] at z7
              exact ⟨fun z6 => (th_rtE hv hjk (by omega)).trans (z7.1 z6), fun z6 => (th_rtE hv hjm (by omega)).trans (z7.2 z6)⟩))
            refine th_zeq (tgt := 31) hx hb dX5_gossip_24 (by decide) (by omega) (fun c_9 => ?_) (fun c_9 => by exfalso; omega)
            refine lv_iconst (v := nI 0) hx hb dX5_gossip_31 (by decide) ?_
            refine lv_istore (lv' := [(5, .int (nI 0)), (4, .ref (ad (12 + j2))), (3, .ref (ad (12 + j1))), (0, .ref (ad 0)), (1, .int (nI j1)), (2, .int (nI j2))]) hx hb dX5_gossip_32 hl (by decide) rfl (fun ls hl => ?_)
            refine lv_iload hx hb dX5_gossip_34 (lv_at hl 0 rfl) ?_
            refine th_zne (tgt := 50) hx hb dX5_gossip_36 (by decide) (by omega) (fun c_10 => by exfalso; omega) (fun c_10 => ?_)
            refine lv_aload_n hx hb dX5_gossip_39 rfl (lv_at hl 2 rfl) ?_
            refine lv_iconst (v := nI 1) hx hb dX5_gossip_40 (by decide) ?_
            refine th_putN1 (ci := 3) (v := .int (nI 1)) (ty := .boolean) (C := RX3) (T := TX3) (N := 6) hx hb hts inX3 tyX3 tyX3_ok nmX3 hown hK (th_gW hG hj1) hS (Or.inl ⟨12 + j1, by omega, rfl⟩) rfl 3 (by decide) (va_Nw.use rfl (tn_1_115 hN)) (fun _ h9 => h9) rfl (by decide +kernel) (th_nz (Or.inr rfl)) (th_fz (Or.inr rfl)) (Nat.le_of_ble_eq_true rfl) dX5_gossip_41 (fun H locs hPc hsm hS => ?_)
            have hG := th_guW1 (K9 := S.2.2.2.2.2.2.1 j1) (w0 := S.2.2.2.2.2.2.2 j1 0) (w1 := S.2.2.2.2.2.2.2 j1 1) (w2 := nI 1) (w3 := S.2.2.2.2.2.2.2 j1 3) (w4 := S.2.2.2.2.2.2.2 j1 4) hG hJ hj1 hsm hPc
            have hv9 : th_Iv (th_sA S j1) Vx B dsx kvx ks := th_IvW hv (hv.2.2.2.2.2.2 j1 hj1).1 (Or.inr rfl)
            refine lv_aload hx hb dX5_gossip_44 (lv_at hl 1 rfl) ?_
            refine lv_iconst (v := nI 1) hx hb dX5_gossip_46 (by decide) ?_
            refine th_putN1 (ci := 3) (v := .int (nI 1)) (ty := .boolean) (C := RX3) (T := TX3) (N := 6) hx hb hts inX3 tyX3 tyX3_ok nmX3 hown hK (th_gW hG hj2) hS (Or.inl ⟨12 + j2, by omega, rfl⟩) rfl 3 (by decide) (va_Nw.use rfl (tn_1_115 hN)) (fun _ h9 => h9) rfl (by decide +kernel) (th_nz (Or.inr rfl)) (th_fz (Or.inr rfl)) (Nat.le_of_ble_eq_true rfl) dX5_gossip_47 (fun H locs hPc hsm hS => ?_)
            have hG := th_guW1 (K9 := (th_sA S j1).2.2.2.2.2.2.1 j2) (w0 := (th_sA S j1).2.2.2.2.2.2.2 j2 0) (w1 := (th_sA S j1).2.2.2.2.2.2.2 j2 1) (w2 := nI 1) (w3 := (th_sA S j1).2.2.2.2.2.2.2 j2 3) (w4 := (th_sA S j1).2.2.2.2.2.2.2 j2 4) hG hJ hj2 hsm hPc
            refine lv_iload hx hb dX5_gossip_50 (lv_at hl 0 rfl) ?_
            refine thx_zret hx hb hr hlk hQ hS dX5_gossip_52 (Nat.le_of_ble_eq_true rfl) (Nat.le_of_ble_eq_true rfl) (by first | exact Or.inl rfl | exact Or.inr rfl | exact th_b01 _ | assumption) ?_
            refine ⟨_, rfl, ?_⟩
            unfold sp_gossip
            simp only [zj1, zj2]
            rw [th_ifT ⟨q1, q2⟩, th_ifF (fun z9 => q3 z9)]
            exact ⟨rfl, rfl, th_GWW (S := th_sA S j1) hG hJ hv9 (hv9.2.2.2.2.2.2 j2 hj2).1 (Or.inr rfl)⟩

set_option maxRecDepth 100000 in
set_option maxHeartbeats 4000000 in
theorem c_X5_follow (l : Launch) (hl0 : l.stackTraces = false) (Y : th_Y) (H0 : Heap) (ad : Nat → Nat) (S : th_S) (Vx B : Nat → Nat → Int32) (dsx kvx ks : Nat → Int32) (wy : Nat → Nat) (wz : Nat → Nat → Int32) (hI : th_I Y ad S Vx B dsx kvx ks wy wz H0) (x1 x2 : Int32) : th_MX l Y yX5_follow cX5_follow 4 none (th_rm 6 8 400) [.ref (ad 0), .int x1, .int x2] H0 (th_gA ad S.1 H0.size) (th_pv Y (ad 0) (th_gA ad S.1 H0.size) (sp_follow S x1 x2)) (th_px Y ["java/lang/IndexOutOfBoundsException", "java/lang/IllegalArgumentException"] (ad 0) (th_gA ad S.1 H0.size) S (sp_follow S x1 x2)) := by
  refine th_MX.intro (by decide) (Nat.le_of_ble_eq_true rfl) ?_
  intro p e s m args below meth c ls Q hQ C hKN hl hS hX
  obtain ⟨hx, hb, hr, hml, hown, hts, hlk, hnm⟩ := C
  obtain ⟨hK, hN⟩ := hKN
  have hown : s.vm.findClass RX5 = some m.cls := hown
  have hl : lv_has ls 4 [(0, .ref (ad 0)), (1, .int x1), (2, .int x2)] := hl
  obtain ⟨hG, hJ, hv⟩ := hI
  have hv1 := hv.1
  have hv12 := hv.2.2.1
  refine lv_aload_n hx hb dX5_follow_0 rfl (lv_at hl 0 rfl) ?_
  refine lv_iload_n hx hb dX5_follow_1 rfl (lv_at hl 1 rfl) ?_
  refine thx_callV hx hb hml hown hts ⟨hK, hN⟩ hl hS hX ((th_gO hG) 0 _ rfl) rfl (rest := []) (c_X5_watcherNumbered l hl0 Y _ ad S.1 S.2.1 Vx B S.2.2.2.1 dsx wy wz kvx ks S.2.2.2.2.2.2.1 S.2.2.2.2.2.2.2 hG hv.1.2 x1) ok_X5_watcherNumbered tw_3_88 dX5_follow_2 rfl rfl (Nat.le_of_ble_eq_true rfl) ⟨(Nat.le_of_ble_eq_true rfl), (Nat.le_of_ble_eq_true rfl)⟩ ⟨(Nat.le_of_ble_eq_true rfl), (Nat.le_of_ble_eq_true rfl)⟩ (fun _ h => h.elim) ?_ ?_
  · rintro E9 ce9 q9 H9 locs9 ⟨rfl, hng9⟩ hsm9 hS9 hc9 hv9 hcl9
    refine thx_out hlk hX.2.2 hQ hS9 hc9 hv9 hcl9 (Nat.le_of_ble_eq_true rfl) (Nat.le_of_ble_eq_true rfl) ?_
    have q1 : ¬ th_ir x1 0 4 := hng9
    refine ⟨0, rfl, ?_, th_GWs (th_gkeep hG hsm9) hJ hv⟩
    unfold sp_follow
    rw [th_ifF (fun z9 => q1 z9)]
    all_goals rfl
  · skip
    refine th_kpr (fun r9 locs hr9 hS => ?_)
    obtain ⟨j1, hj1, ux9, rfl⟩ := hr9
    subst ux9
    have q1 : th_ir (nI j1) 0 4 := th_irN (Nat.zero_le _) hj1
    have zj1 : th_ix (nI j1) = j1 := th_ixN (by have := hv.1; omega)
    obtain ⟨hkj1, haj1⟩ := hv.2.2.2.2.2.2 j1 hj1
    refine lv_astore_n (lv' := [(3, .ref (ad (12 + j1))), (0, .ref (ad 0)), (1, .int (nI j1)), (2, .int x2)]) hx hb dX5_follow_5 rfl hl (by decide) rfl (fun ls hl => ?_)
    refine lv_iload_n hx hb dX5_follow_6 rfl (lv_at hl 3 rfl) ?_
    refine lv_iconst (v := nI 0) hx hb dX5_follow_7 (by decide) ?_
    refine lv_ldc hx hb hown (hts _ tw_2_7) dX5_follow_8 ?_
    refine th_ti (show (65535 : Int32) = nI 65535 from rfl) ?_
    refine thx_callS hx hb hml hown hts ⟨hK, hN⟩ hl hS hX (rest := []) (c_X5_requireRange l hl0 Y _ x2 (nI 0) (nI 65535)) ok_X5_requireRange tw_2_8 dX5_follow_10 rfl rfl (Nat.le_of_ble_eq_true rfl) ⟨(Nat.le_of_ble_eq_true rfl), (Nat.le_of_ble_eq_true rfl)⟩ ⟨(Nat.le_of_ble_eq_true rfl), (Nat.le_of_ble_eq_true rfl)⟩ (fun _ h => h.elim) ?_ ?_
    · rintro E9 ce9 q9 H9 locs9 ⟨rfl, hng9⟩ hsm9 hS9 hc9 hv9 hcl9
      refine thx_out hlk hX.2.2 hQ hS9 hc9 hv9 hcl9 (Nat.le_of_ble_eq_true rfl) (Nat.le_of_ble_eq_true rfl) ?_
      have q2 : ¬ th_ir x2 0 65536 := fun z9 => hng9 (th_irB (by omega) (by omega) (th_irE z9 (by omega)))
      refine ⟨1, rfl, ?_, th_GWs (th_gkeep hG hsm9) hJ hv⟩
      unfold sp_follow
      simp only [zj1]
      rw [th_ifT q1, th_ifF (fun z9 => q2 z9)]
      all_goals rfl
    · skip
      refine th_kpv (fun locs hr9 hS => ?_)
      have q2 : th_ir x2 0 65536 := th_irE (th_irO (by omega) (by omega) hr9.1 hr9.2) (by omega)
      have uq9 := q2
      obtain ⟨j2, j2a, j2b, ux9⟩ := uq9
      subst ux9
      have zj2 : th_ix (nI j2) = j2 := th_ixN (by omega)
      refine lv_aload_n hx hb dX5_follow_13 rfl (lv_at hl 0 rfl) ?_
      refine lv_iload_n hx hb dX5_follow_14 rfl (lv_at hl 3 rfl) ?_
      refine th_putN1 (ci := 3) (v := .int (nI j2)) (ty := .int) (C := RX3) (T := TX3) (N := 6) hx hb hts inX3 tyX3 tyX3_ok nmX3 hown hK (th_gW hG hj1) hS (Or.inl ⟨12 + j1, by omega, rfl⟩) rfl 4 (by decide) (va_Nw.use rfl (tn_1_117 hN)) (fun _ h9 => h9) rfl (by decide +kernel) rfl rfl (Nat.le_of_ble_eq_true rfl) dX5_follow_15 (fun H locs hPc hsm8 hS => ?_)
      refine lv_aload_n hx hb dX5_follow_18 rfl (lv_at hl 0 rfl) ?_
      refine lv_iconst (v := nI 0) hx hb dX5_follow_19 (by decide) ?_
      refine th_putN1 (ci := 3) (v := .int (nI 0)) (ty := .int) (C := RX3) (T := TX3) (N := 6) hx hb hts inX3 tyX3 tyX3_ok nmX3 hown hK hPc hS (Or.inl ⟨12 + j1, by omega, rfl⟩) rfl 5 (by decide) (va_Nw.use rfl (tn_1_119 hN)) (fun _ h9 => h9) rfl (by decide +kernel) rfl rfl (Nat.le_of_ble_eq_true rfl) dX5_follow_20 (fun H locs hPc hsm hS => ?_)
      have hG := th_guW1 (K9 := S.2.2.2.2.2.2.1 j1) (w0 := S.2.2.2.2.2.2.2 j1 0) (w1 := S.2.2.2.2.2.2.2 j1 1) (w2 := S.2.2.2.2.2.2.2 j1 2) (w3 := nI j2) (w4 := nI 0) hG hJ hj1 (hsm8.tr hsm) hPc
      refine thx_vret hx hb hr hlk hQ hS dX5_follow_23 (Nat.le_of_ble_eq_true rfl) (Nat.le_of_ble_eq_true rfl) ?_
      refine ⟨rfl, ?_⟩
      unfold sp_follow
      simp only [zj1, zj2]
      rw [th_ifT q1, th_ifT q2]
      exact ⟨rfl, th_GWW hG hJ hv hkj1 haj1⟩

set_option maxRecDepth 100000 in
set_option maxHeartbeats 4000000 in
theorem c_X5_appendRow (l : Launch) (hl0 : l.stackTraces = false) (Y : th_Y) (H0 : Heap) (ad : Nat → Nat) (S : th_S) (Vx B : Nat → Nat → Int32) (dsx kvx ks : Nat → Int32) (wy : Nat → Nat) (wz : Nat → Nat → Int32) (hI : th_I Y ad S Vx B dsx kvx ks wy wz H0) (x1 x2 x3 : Int32) : th_MX l Y yX5_appendRow cX5_appendRow 6 (some .int) (th_rm 6 8 400) [.ref (ad 0), .int x1, .int x2, .int x3] H0 (th_gA ad S.1 H0.size) (th_po Y (ad 0) (th_gA ad S.1 H0.size) (sp_appendRow S x1 x2 x3)) (th_px Y ["java/lang/IndexOutOfBoundsException", "java/lang/IllegalArgumentException", "java/lang/IllegalStateException"] (ad 0) (th_gA ad S.1 H0.size) S (sp_appendRow S x1 x2 x3)) := by
  refine th_MX.intro (by decide) (Nat.le_of_ble_eq_true rfl) ?_
  intro p e s m args below meth c ls Q hQ C hKN hl hS hX
  obtain ⟨hx, hb, hr, hml, hown, hts, hlk, hnm⟩ := C
  obtain ⟨hK, hN⟩ := hKN
  have hown : s.vm.findClass RX5 = some m.cls := hown
  have hl : lv_has ls 6 [(0, .ref (ad 0)), (1, .int x1), (2, .int x2), (3, .int x3)] := hl
  obtain ⟨hG, hJ, hv⟩ := hI
  have hv1 := hv.1
  have hv12 := hv.2.2.1
  refine lv_aload_n hx hb dX5_appendRow_0 rfl (lv_at hl 0 rfl) ?_
  refine lv_iload_n hx hb dX5_appendRow_1 rfl (lv_at hl 1 rfl) ?_
  refine thx_callV hx hb hml hown hts ⟨hK, hN⟩ hl hS hX ((th_gO hG) 0 _ rfl) rfl (rest := []) (c_X5_viewNumbered l hl0 Y _ ad S.1 S.2.1 Vx B S.2.2.2.1 dsx wy wz kvx ks S.2.2.2.2.2.2.1 S.2.2.2.2.2.2.2 hG hv.1.2 x1) ok_X5_viewNumbered tw_1_175 dX5_appendRow_2 rfl rfl (Nat.le_of_ble_eq_true rfl) ⟨(Nat.le_of_ble_eq_true rfl), (Nat.le_of_ble_eq_true rfl)⟩ ⟨(Nat.le_of_ble_eq_true rfl), (Nat.le_of_ble_eq_true rfl)⟩ (fun _ h => h.elim) ?_ ?_
  · rintro E9 ce9 q9 H9 locs9 ⟨rfl, hng9⟩ hsm9 hS9 hc9 hv9 hcl9
    refine thx_out hlk hX.2.2 hQ hS9 hc9 hv9 hcl9 (Nat.le_of_ble_eq_true rfl) (Nat.le_of_ble_eq_true rfl) ?_
    have q1 : ¬ th_ir x1 0 (S.1) := hng9
    refine ⟨0, rfl, ?_, th_GWs (th_gkeep hG hsm9) hJ hv⟩
    unfold sp_appendRow
    rw [th_ifF (fun z9 => q1 z9)]
    all_goals rfl
  · skip
    refine th_kpr (fun r9 locs hr9 hS => ?_)
    obtain ⟨j1, hj1, ux9, rfl⟩ := hr9
    subst ux9
    have q1 : th_ir (nI j1) 0 (S.1) := th_irN (Nat.zero_le _) hj1
    have zj1 : th_ix (nI j1) = j1 := th_ixN (by have := hv.1; omega)
    obtain ⟨hnj1, hBj1, hfj1⟩ := hv.2.1 j1 hj1
    refine lv_astore (lv' := [(4, .ref (ad (16 + 3 * j1))), (0, .ref (ad 0)), (1, .int (nI j1)), (2, .int x2), (3, .int x3)]) hx hb dX5_appendRow_5 hl (by decide) rfl (fun ls hl => ?_)
    refine lv_iload_n hx hb dX5_appendRow_7 rfl (lv_at hl 4 rfl) ?_
    refine lv_iconst (v := nI 1) hx hb dX5_appendRow_8 (by decide) ?_
    refine lv_bipush (v := nI 40) hx hb dX5_appendRow_9 (by decide) ?_
    refine thx_callS hx hb hml hown hts ⟨hK, hN⟩ hl hS hX (rest := []) (c_X5_requireRange l hl0 Y _ x3 (nI 1) (nI 40)) ok_X5_requireRange tw_2_8 dX5_appendRow_11 rfl rfl (Nat.le_of_ble_eq_true rfl) ⟨(Nat.le_of_ble_eq_true rfl), (Nat.le_of_ble_eq_true rfl)⟩ ⟨(Nat.le_of_ble_eq_true rfl), (Nat.le_of_ble_eq_true rfl)⟩ (fun _ h => h.elim) ?_ ?_
    · rintro E9 ce9 q9 H9 locs9 ⟨rfl, hng9⟩ hsm9 hS9 hc9 hv9 hcl9
      refine thx_out hlk hX.2.2 hQ hS9 hc9 hv9 hcl9 (Nat.le_of_ble_eq_true rfl) (Nat.le_of_ble_eq_true rfl) ?_
      have q3 : ¬ th_ir x3 1 41 := fun z9 => hng9 (th_irB (by omega) (by omega) (th_irE z9 (by omega)))
      refine ⟨1, rfl, ?_, th_GWs (th_gkeep hG hsm9) hJ hv⟩
      unfold sp_appendRow
      simp only [zj1]
      rw [th_ifT q1, th_ifF (fun z9 => q3 z9.1)]
      all_goals rfl
    · skip
      refine th_kpv (fun locs hr9 hS => ?_)
      have q3 : th_ir x3 1 41 := th_irE (th_irO (by omega) (by omega) hr9.1 hr9.2) (by omega)
      have uq9 := q3
      obtain ⟨j3, j3a, j3b, ux9⟩ := uq9
      subst ux9
      have zj3 : th_ix (nI j3) = j3 := th_ixN (by omega)
      refine lv_iload_n hx hb dX5_appendRow_14 rfl (lv_at hl 3 rfl) ?_
      refine lv_iconst (v := nI 0) hx hb dX5_appendRow_15 (by decide) ?_
      refine lv_ldc hx hb hown (hts _ tw_2_7) dX5_appendRow_16 ?_
      refine th_ti (show (65535 : Int32) = nI 65535 from rfl) ?_
      refine lv_iload_n hx hb dX5_appendRow_18 rfl (lv_at hl 4 rfl) ?_
      refine lv_isub hx hb dX5_appendRow_19 ?_
      refine th_ti (pk_sub (by omega)) ?_
      refine lv_iconst (v := nI 1) hx hb dX5_appendRow_20 (by decide) ?_
      refine lv_iadd hx hb dX5_appendRow_21 ?_
      refine th_ti (nI_add _ _) ?_
      refine thx_callS hx hb hml hown hts ⟨hK, hN⟩ hl hS hX (rest := []) (c_X5_requireRange l hl0 Y _ x2 (nI 0) (nI ((65535 - j3) + 1))) ok_X5_requireRange tw_2_8 dX5_appendRow_22 rfl rfl (Nat.le_of_ble_eq_true rfl) ⟨(Nat.le_of_ble_eq_true rfl), (Nat.le_of_ble_eq_true rfl)⟩ ⟨(Nat.le_of_ble_eq_true rfl), (Nat.le_of_ble_eq_true rfl)⟩ (fun _ h => h.elim) ?_ ?_
      · rintro E9 ce9 q9 H9 locs9 ⟨rfl, hng9⟩ hsm9 hS9 hc9 hv9 hcl9
        refine thx_out hlk hX.2.2 hQ hS9 hc9 hv9 hcl9 (Nat.le_of_ble_eq_true rfl) (Nat.le_of_ble_eq_true rfl) ?_
        have q2 : ¬ th_ir x2 0 (65537 - j3) := fun z9 => hng9 (th_irB (by omega) (by omega) (th_irE z9 (by omega)))
        refine ⟨1, rfl, ?_, th_GWs (th_gkeep hG hsm9) hJ hv⟩
        unfold sp_appendRow
        simp only [zj1, zj3]
        rw [th_ifT q1, th_ifF (fun z9 => q2 z9.2)]
        all_goals rfl
      · skip
        refine th_kpv (fun locs hr9 hS => ?_)
        have q2 : th_ir x2 0 (65537 - j3) := th_irE (th_irO (by omega) (by omega) hr9.1 hr9.2) (by omega)
        have uq9 := q2
        obtain ⟨j2, j2a, j2b, ux9⟩ := uq9
        subst ux9
        have zj2 : th_ix (nI j2) = j2 := th_ixN (by omega)
        refine lv_aload hx hb dX5_appendRow_25 (lv_at hl 0 rfl) ?_
        refine lv_iload_n hx hb dX5_appendRow_27 rfl (lv_at hl 4 rfl) ?_
        refine thx_callS hx hb hml hown hts ⟨hK, hN⟩ hl hS hX (rest := []) (c_X5_requireRoom l hl0 Y _ (ad (16 + 3 * j1)) (ad (16 + 3 * j1 + 1)) (ad (16 + 3 * j1 + 2)) (S.2.1 j1) (Vx j1) (B j1) (th_gV hG hj1) j3 (by omega) (by omega)) ok_X5_requireRoom tw_2_27 dX5_appendRow_28 rfl rfl (Nat.le_of_ble_eq_true rfl) ⟨(Nat.le_of_ble_eq_true rfl), (Nat.le_of_ble_eq_true rfl)⟩ ⟨(Nat.le_of_ble_eq_true rfl), (Nat.le_of_ble_eq_true rfl)⟩ (fun _ h => h.elim) ?_ ?_
        · rintro E9 ce9 q9 H9 locs9 ⟨rfl, hng9⟩ hsm9 hS9 hc9 hv9 hcl9
          refine thx_out hlk hX.2.2 hQ hS9 hc9 hv9 hcl9 (Nat.le_of_ble_eq_true rfl) (Nat.le_of_ble_eq_true rfl) ?_
          have q4 : ¬ (S.2.1 j1 + j3 ≤ 100) := by omega
          refine ⟨2, rfl, ?_, th_GWs (th_gkeep hG hsm9) hJ hv⟩
          unfold sp_appendRow
          simp only [zj1, zj3, zj2]
          rw [th_ifT q1, th_ifT ⟨q3, q2⟩, th_ifF (fun z9 => q4 z9)]
          all_goals rfl
        · skip
          refine th_kpv (fun locs hr9 hS => ?_)
          have q4 : S.2.1 j1 + j3 ≤ 100 := by omega
          have hP : va_P Y.1 vwCl [(ad (16 + 3 * j1), .inr (2, [.int (nI (S.2.1 j1 + 0)), .ref (ad (16 + 3 * j1 + 1)), .ref (ad (16 + 3 * j1 + 2))])), (ad (16 + 3 * j1 + 1), .inl (Y.2 0, 100, .inl (Vx j1))), (ad (16 + 3 * j1 + 2), .inl (Y.2 0, 256, .inl (B j1)))] H0 := th_gV hG hj1
          have hD : va_D (th_gA ad S.1 H0.size) [(ad (16 + 3 * j1), .inr (2, [.int (nI (S.2.1 j1 + 0)), .ref (ad (16 + 3 * j1 + 1)), .ref (ad (16 + 3 * j1 + 2))])), (ad (16 + 3 * j1 + 1), .inl (Y.2 0, 100, .inl (Vx j1))), (ad (16 + 3 * j1 + 2), .inl (Y.2 0, 256, .inl (B j1)))] := th_gDA (Y := Y) hJ [16 + 3 * j1, 16 + 3 * j1 + 1, 16 + 3 * j1 + 2] (fun k9 hk9 => by simp only [List.mem_cons, List.not_mem_nil, or_false] at hk9; omega) (th_ndV _) rfl
          refine lv_iconst (v := nI 0) hx hb dX5_appendRow_31 (by decide) ?_
          refine lv_istore (lv' := [(5, .int (nI 0)), (4, .ref (ad (16 + 3 * j1))), (0, .ref (ad 0)), (1, .int (nI j1)), (2, .int (nI j2)), (3, .int (nI j3))]) hx hb dX5_appendRow_32 hl (by decide) rfl (fun ls hl => ?_)
          have lp_1 : ∀ (n_2 : Nat) (jj : Nat) (f9 : Nat → Int32) (g9 : Nat → Int32) (H : Heap) (locs : List Loc) (ls : Array Slot), j3 - jj < n_2 → (jj ≤ j3) → (th_BI f9 g9 (S.2.1 j1 + jj)) → (∀ i9, i9 < S.2.1 j1 + jj → f9 i9 = th_row (S.2.2.1 j1) (S.2.1 j1) j2 j3 i9 ∧ th_ir (th_row (S.2.2.1 j1) (S.2.1 j1) j2 j3 i9) 0 65536) → (th_Same (fun z => z ∈ [ad (16 + 3 * j1), ad (16 + 3 * j1 + 1), ad (16 + 3 * j1 + 2)]) H0 H) → va_P Y.1 vwCl [(ad (16 + 3 * j1), .inr (2, [.int (nI (S.2.1 j1 + jj)), .ref (ad (16 + 3 * j1 + 1)), .ref (ad (16 + 3 * j1 + 2))])), (ad (16 + 3 * j1 + 1), .inl (Y.2 0, 100, .inl f9)), (ad (16 + 3 * j1 + 2), .inl (Y.2 0, 256, .inl g9))] H → va_D (th_gA ad S.1 H0.size) [(ad (16 + 3 * j1), .inr (2, [.int (nI (S.2.1 j1 + jj)), .ref (ad (16 + 3 * j1 + 1)), .ref (ad (16 + 3 * j1 + 2))])), (ad (16 + 3 * j1 + 1), .inl (Y.2 0, 100, .inl f9)), (ad (16 + 3 * j1 + 2), .inl (Y.2 0, 256, .inl g9))] → va_S (th_gA ad S.1 H0.size) H0 H locs → lv_has ls 6 [(0, .ref (ad 0)), (1, .int (nI j1)), (2, .int (nI j2)), (3, .int (nI j3)), (4, .ref (ad (16 + 3 * j1))), (5, .int (nI jj))] → W p l e (th_rm 6 8 400) s m args below meth c H locs 4 24 Q (F0 m 34 ls []) := by
            intro n_2; induction n_2 with
            | zero => intros; exfalso; omega
            | succ n_2 ih =>
              intro jj f9 g9 H locs ls hmz hjj hB9 hf9 hsm9 hP hD hS hl
              refine lv_iload hx hb dX5_appendRow_34 (lv_at hl 5 rfl) ?_
              refine lv_iload_n hx hb dX5_appendRow_36 rfl (lv_at hl 3 rfl) ?_
              refine th_ige (tgt := 55) hx hb dX5_appendRow_37 (by decide) (by omega) (by omega) (fun c_3 => ?_) (fun c_3 => ?_)
              · skip
                have ej : jj = j3 := by omega
                rw [ej] at hP hB9 hf9
                have hG := th_guV hG hJ hj1 hsm9 hP
                refine lv_aload hx hb dX5_appendRow_55 (lv_at hl 4 rfl) ?_
                refine va_getN (D := Y.1) (ci := 2) (v := .int (nI (S.2.1 j1 + j3))) (C := RX2) (T := TX2) (N := 3) hx hb hts inX2 hown hK hP 0 rfl rfl 0 (by decide) (va_Nw.use rfl (tn_1_94 hN)) (fun _ h9 => h9) rfl dX5_appendRow_57 ?_
                refine thx_iret hx hb hr hlk hQ hS dX5_appendRow_60 (Nat.le_of_ble_eq_true rfl) (Nat.le_of_ble_eq_true rfl) ?_
                refine ⟨_, rfl, ?_⟩
                unfold sp_appendRow
                simp only [zj1, zj3, zj2]
                rw [th_ifT q1, th_ifT ⟨q3, q2⟩, th_ifT q4]
                exact ⟨rfl, rfl, th_GWV hG hJ hv (by omega) (by omega) hB9 hf9⟩
              refine lv_aload hx hb dX5_appendRow_40 (lv_at hl 4 rfl) ?_
              refine lv_iload_n hx hb dX5_appendRow_42 rfl (lv_at hl 2 rfl) ?_
              refine lv_iload hx hb dX5_appendRow_43 (lv_at hl 5 rfl) ?_
              refine lv_iadd hx hb dX5_appendRow_45 ?_
              refine th_ti (nI_add _ _) ?_
              refine th_callV hx hb hml hown hts ⟨hK, hN⟩ hl hS (hP 0 _ rfl) rfl (rest := []) (c_X2_add l Y _ (ad (16 + 3 * j1)) (ad (16 + 3 * j1 + 1)) (ad (16 + 3 * j1 + 2)) (S.2.1 j1 + jj) f9 g9 hP ⟨hD.1, fun _ _ _ => trivial⟩ (nI (j2 + jj)) (by omega) hB9) ok_X2_add tw_2_46 dX5_appendRow_46 rfl rfl (Nat.le_of_ble_eq_true rfl) ⟨Nat.le_of_ble_eq_true rfl, Nat.le_of_ble_eq_true rfl⟩ ⟨Nat.le_of_ble_eq_true rfl, Nat.le_of_ble_eq_true rfl⟩ (th_gAm (ad := ad) [16 + 3 * j1, 16 + 3 * j1 + 1, 16 + 3 * j1 + 2] (fun k9 hk9 => by simp only [List.mem_cons, List.not_mem_nil, or_false] at hk9; omega)) (th_kv (fun H locs hp hsm hS => ?_))
              obtain ⟨g8, hPc, hB8⟩ := hp
              have hP : va_P Y.1 vwCl [(ad (16 + 3 * j1), .inr (2, [.int (nI (S.2.1 j1 + jj + 1)), .ref (ad (16 + 3 * j1 + 1)), .ref (ad (16 + 3 * j1 + 2))])), (ad (16 + 3 * j1 + 1), .inl (Y.2 0, 100, .inl (upd f9 (S.2.1 j1 + jj) (nI (j2 + jj))))), (ad (16 + 3 * j1 + 2), .inl (Y.2 0, 256, .inl g8))] _ := hPc
              have hD : va_D _ [(ad (16 + 3 * j1), .inr (2, [.int (nI (S.2.1 j1 + jj + 1)), .ref (ad (16 + 3 * j1 + 1)), .ref (ad (16 + 3 * j1 + 2))])), (ad (16 + 3 * j1 + 1), .inl (Y.2 0, 100, .inl (upd f9 (S.2.1 j1 + jj) (nI (j2 + jj))))), (ad (16 + 3 * j1 + 2), .inl (Y.2 0, 256, .inl g8))] := th_Dsame hD rfl
              refine lv_iinc (v := nI (jj + 1)) (lv' := [(5, .int (nI (jj + 1))), (0, .ref (ad 0)), (1, .int (nI j1)), (2, .int (nI j2)), (3, .int (nI j3)), (4, .ref (ad (16 + 3 * j1)))]) hx hb dX5_appendRow_49 hl (k := 5) rfl (nI_add _ 1) (by decide) rfl (fun ls hl => ?_)
              refine lv_goto (tgt := 34) hx hb dX5_appendRow_52 (by decide) ?_
              exact ih (jj + 1) (upd f9 (S.2.1 j1 + jj) (nI (j2 + jj))) (g8) _ _ _ (by omega) (by omega) (hB8) (th_rowS hf9 (by omega) (by omega)) (hsm9.tr hsm) hP hD hS (lv_sub hl [1, 2, 3, 4, 5, 0] rfl)
          exact lp_1 ((j3 - (0)) + 1) (0) (Vx j1) (B j1) _ _ _ (Nat.lt_succ_self _) (by omega) (hBj1) (th_row0 hfj1) (⟨Nat.le_refl _, fun _ _ _ => rfl⟩) hP hD hS (lv_sub hl [2, 3, 4, 5, 1, 0] rfl)

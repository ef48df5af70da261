/-- what stands behind a call of the loop: from the loop's end on, in any state that fits -/
def th_LC (p : Program) (l : Launch) (e : Env) (s : State) (m : MethodId) (below : List Frame) (meth : Method) (c : Code) (b : Nat) (Y : th_Y) (g o oo i cells slots : Nat) : Prop := ∀ (S1 : th_S) (H1 : Heap) (locs1 : List Loc) (ls1 : Array Slot), th_LI Y s.heap.size g o oo S1 H1 → va_S (fun q : Nat => s.heap.size ≤ q) s.heap H1 locs1 → lv_has ls1 7 [(0, .ref b), (1, .ref g), (2, .ref o), (3, .ref oo), (4, .int (nI i))] → W p l e room_1 s m #[Value.ref b] below meth c H1 locs1 (cells + 8) (slots + 400) (lw_Z below #[Value.ref b] s) (F0 m 1949 ls1 [])
theorem k3_append (S : th_S) (x1 x2 : Int32) : th_K3 (sp_append S x1 x2) := by
  unfold sp_append
  repeat' (first | exact (by decide : (0 : Nat) ≤ 3) | exact (by decide : (1 : Nat) ≤ 3) | exact (by decide : (2 : Nat) ≤ 3) | exact (by decide : (3 : Nat) ≤ 3) | refine th_K3I ?_ ?_)
theorem k3_appendRow (S : th_S) (x1 x2 x3 : Int32) : th_K3 (sp_appendRow S x1 x2 x3) := by
  unfold sp_appendRow
  repeat' (first | exact (by decide : (0 : Nat) ≤ 3) | exact (by decide : (1 : Nat) ≤ 3) | exact (by decide : (2 : Nat) ≤ 3) | exact (by decide : (3 : Nat) ≤ 3) | refine th_K3I ?_ ?_)
theorem k3_fork (S : th_S) (x1 x2 : Int32) : th_K3 (sp_fork S x1 x2) := by
  unfold sp_fork
  repeat' (first | exact (by decide : (0 : Nat) ≤ 3) | exact (by decide : (1 : Nat) ≤ 3) | exact (by decide : (2 : Nat) ≤ 3) | exact (by decide : (3 : Nat) ≤ 3) | refine th_K3I ?_ ?_)
theorem k3_views (S : th_S) : th_K3 (sp_views S) := by
  unfold sp_views
  repeat' (first | exact (by decide : (0 : Nat) ≤ 3) | exact (by decide : (1 : Nat) ≤ 3) | exact (by decide : (2 : Nat) ≤ 3) | exact (by decide : (3 : Nat) ≤ 3) | refine th_K3I ?_ ?_)
theorem k3_size (S : th_S) (x1 : Int32) : th_K3 (sp_size S x1) := by
  unfold sp_size
  repeat' (first | exact (by decide : (0 : Nat) ≤ 3) | exact (by decide : (1 : Nat) ≤ 3) | exact (by decide : (2 : Nat) ≤ 3) | exact (by decide : (3 : Nat) ≤ 3) | refine th_K3I ?_ ?_)
theorem k3_leaf (S : th_S) (x1 x2 : Int32) : th_K3 (sp_leaf S x1 x2) := by
  unfold sp_leaf
  repeat' (first | exact (by decide : (0 : Nat) ≤ 3) | exact (by decide : (1 : Nat) ≤ 3) | exact (by decide : (2 : Nat) ≤ 3) | exact (by decide : (3 : Nat) ≤ 3) | refine th_K3I ?_ ?_)
theorem k3_root (S : th_S) (x1 x2 : Int32) : th_K3 (sp_root S x1 x2) := by
  unfold sp_root
  repeat' (first | exact (by decide : (0 : Nat) ≤ 3) | exact (by decide : (1 : Nat) ≤ 3) | exact (by decide : (2 : Nat) ≤ 3) | exact (by decide : (3 : Nat) ≤ 3) | refine th_K3I ?_ ?_)
theorem k3_loadLeaf (S : th_S) (x1 x2 x3 : Int32) : th_K3 (sp_loadLeaf S x1 x2 x3) := by
  unfold sp_loadLeaf
  repeat' (first | exact (by decide : (0 : Nat) ≤ 3) | exact (by decide : (1 : Nat) ≤ 3) | exact (by decide : (2 : Nat) ≤ 3) | exact (by decide : (3 : Nat) ≤ 3) | refine th_K3I ?_ ?_)
theorem k3_loadGrowth (S : th_S) (x1 x2 x3 : Int32) : th_K3 (sp_loadGrowth S x1 x2 x3) := by
  unfold sp_loadGrowth
  repeat' (first | exact (by decide : (0 : Nat) ≤ 3) | exact (by decide : (1 : Nat) ≤ 3) | exact (by decide : (2 : Nat) ≤ 3) | exact (by decide : (3 : Nat) ≤ 3) | refine th_K3I ?_ ?_)
theorem k3_loadKey (S : th_S) (x1 : Int32) : th_K3 (sp_loadKey S x1) := by
  unfold sp_loadKey
  repeat' (first | exact (by decide : (0 : Nat) ≤ 3) | exact (by decide : (1 : Nat) ≤ 3) | exact (by decide : (2 : Nat) ≤ 3) | exact (by decide : (3 : Nat) ≤ 3) | refine th_K3I ?_ ?_)
theorem k3_change (S : th_S) (x1 x2 : Int32) : th_K3 (sp_change S x1 x2) := by
  unfold sp_change
  repeat' (first | exact (by decide : (0 : Nat) ≤ 3) | exact (by decide : (1 : Nat) ≤ 3) | exact (by decide : (2 : Nat) ≤ 3) | exact (by decide : (3 : Nat) ≤ 3) | refine th_K3I ?_ ?_)
theorem k3_shorten (S : th_S) : th_K3 (sp_shorten S) := by
  unfold sp_shorten
  repeat' (first | exact (by decide : (0 : Nat) ≤ 3) | exact (by decide : (1 : Nat) ≤ 3) | exact (by decide : (2 : Nat) ≤ 3) | exact (by decide : (3 : Nat) ≤ 3) | refine th_K3I ?_ ?_)
theorem k3_sums (S : th_S) : th_K3 (sp_sums S) := by
  unfold sp_sums
  repeat' (first | exact (by decide : (0 : Nat) ≤ 3) | exact (by decide : (1 : Nat) ≤ 3) | exact (by decide : (2 : Nat) ≤ 3) | exact (by decide : (3 : Nat) ≤ 3) | refine th_K3I ?_ ?_)
theorem k3_sumAt (S : th_S) (x1 : Int32) : th_K3 (sp_sumAt S x1) := by
  unfold sp_sumAt
  repeat' (first | exact (by decide : (0 : Nat) ≤ 3) | exact (by decide : (1 : Nat) ≤ 3) | exact (by decide : (2 : Nat) ≤ 3) | exact (by decide : (3 : Nat) ≤ 3) | refine th_K3I ?_ ?_)
theorem k3_testLeaf (S : th_S) (x1 x2 x3 x4 : Int32) : th_K3 (sp_testLeaf S x1 x2 x3 x4) := by
  unfold sp_testLeaf
  repeat' (first | exact (by decide : (0 : Nat) ≤ 3) | exact (by decide : (1 : Nat) ≤ 3) | exact (by decide : (2 : Nat) ≤ 3) | exact (by decide : (3 : Nat) ≤ 3) | refine th_K3I ?_ ?_)
theorem k3_testGrowth (S : th_S) (x1 x2 x3 x4 : Int32) : th_K3 (sp_testGrowth S x1 x2 x3 x4) := by
  unfold sp_testGrowth
  repeat' (first | exact (by decide : (0 : Nat) ≤ 3) | exact (by decide : (1 : Nat) ≤ 3) | exact (by decide : (2 : Nat) ≤ 3) | exact (by decide : (3 : Nat) ≤ 3) | refine th_K3I ?_ ?_)
theorem k3_testKey (S : th_S) (x1 x2 : Int32) : th_K3 (sp_testKey S x1 x2) := by
  unfold sp_testKey
  repeat' (first | exact (by decide : (0 : Nat) ≤ 3) | exact (by decide : (1 : Nat) ≤ 3) | exact (by decide : (2 : Nat) ≤ 3) | exact (by decide : (3 : Nat) ≤ 3) | refine th_K3I ?_ ?_)
theorem k3_put (S : th_S) (x1 x2 : Int32) : th_K3 (sp_put S x1 x2) := by
  unfold sp_put
  repeat' (first | exact (by decide : (0 : Nat) ≤ 3) | exact (by decide : (1 : Nat) ≤ 3) | exact (by decide : (2 : Nat) ≤ 3) | exact (by decide : (3 : Nat) ≤ 3) | refine th_K3I ?_ ?_)
theorem k3_remove (S : th_S) (x1 : Int32) : th_K3 (sp_remove S x1) := by
  unfold sp_remove
  repeat' (first | exact (by decide : (0 : Nat) ≤ 3) | exact (by decide : (1 : Nat) ≤ 3) | exact (by decide : (2 : Nat) ≤ 3) | exact (by decide : (3 : Nat) ≤ 3) | refine th_K3I ?_ ?_)
theorem k3_get (S : th_S) (x1 : Int32) : th_K3 (sp_get S x1) := by
  unfold sp_get
  repeat' (first | exact (by decide : (0 : Nat) ≤ 3) | exact (by decide : (1 : Nat) ≤ 3) | exact (by decide : (2 : Nat) ≤ 3) | exact (by decide : (3 : Nat) ≤ 3) | refine th_K3I ?_ ?_)
theorem k3_mapRoot (S : th_S) : th_K3 (sp_mapRoot S) := by
  unfold sp_mapRoot
  repeat' (first | exact (by decide : (0 : Nat) ≤ 3) | exact (by decide : (1 : Nat) ≤ 3) | exact (by decide : (2 : Nat) ≤ 3) | exact (by decide : (3 : Nat) ≤ 3) | refine th_K3I ?_ ?_)
theorem k3_show (S : th_S) (x1 x2 : Int32) : th_K3 (sp_show S x1 x2) := by
  unfold sp_show
  repeat' (first | exact (by decide : (0 : Nat) ≤ 3) | exact (by decide : (1 : Nat) ≤ 3) | exact (by decide : (2 : Nat) ≤ 3) | exact (by decide : (3 : Nat) ≤ 3) | refine th_K3I ?_ ?_)
theorem k3_gossip (S : th_S) (x1 x2 : Int32) : th_K3 (sp_gossip S x1 x2) := by
  unfold sp_gossip
  repeat' (first | exact (by decide : (0 : Nat) ≤ 3) | exact (by decide : (1 : Nat) ≤ 3) | exact (by decide : (2 : Nat) ≤ 3) | exact (by decide : (3 : Nat) ≤ 3) | refine th_K3I ?_ ?_)
theorem k3_follow (S : th_S) (x1 x2 : Int32) : th_K3 (sp_follow S x1 x2) := by
  unfold sp_follow
  repeat' (first | exact (by decide : (0 : Nat) ≤ 3) | exact (by decide : (1 : Nat) ≤ 3) | exact (by decide : (2 : Nat) ≤ 3) | exact (by decide : (3 : Nat) ≤ 3) | refine th_K3I ?_ ?_)
theorem k3_isAlarmed (S : th_S) (x1 : Int32) : th_K3 (sp_isAlarmed S x1) := by
  unfold sp_isAlarmed
  repeat' (first | exact (by decide : (0 : Nat) ≤ 3) | exact (by decide : (1 : Nat) ≤ 3) | exact (by decide : (2 : Nat) ≤ 3) | exact (by decide : (3 : Nat) ≤ 3) | refine th_K3I ?_ ?_)
theorem k3_keptSize (S : th_S) (x1 : Int32) : th_K3 (sp_keptSize S x1) := by
  unfold sp_keptSize
  repeat' (first | exact (by decide : (0 : Nat) ≤ 3) | exact (by decide : (1 : Nat) ≤ 3) | exact (by decide : (2 : Nat) ≤ 3) | exact (by decide : (3 : Nat) ≤ 3) | refine th_K3I ?_ ?_)
theorem k3_keptRoot (S : th_S) (x1 : Int32) : th_K3 (sp_keptRoot S x1) := by
  unfold sp_keptRoot
  repeat' (first | exact (by decide : (0 : Nat) ≤ 3) | exact (by decide : (1 : Nat) ≤ 3) | exact (by decide : (2 : Nat) ≤ 3) | exact (by decide : (3 : Nat) ≤ 3) | refine th_K3I ?_ ?_)
theorem k3_counted (S : th_S) (x1 : Int32) : th_K3 (sp_counted S x1) := by
  unfold sp_counted
  repeat' (first | exact (by decide : (0 : Nat) ≤ 3) | exact (by decide : (1 : Nat) ≤ 3) | exact (by decide : (2 : Nat) ≤ 3) | exact (by decide : (3 : Nat) ≤ 3) | refine th_K3I ?_ ?_)
set_option maxRecDepth 100000 in
set_option maxHeartbeats 1600000 in
theorem law_c0 {p : Program} {e : Env} {s : State} {m : MethodId} {below : List Frame} {meth : Method} {c : Code} (l : Launch) (hl0 : l.stackTraces = false) (Y : th_Y) {b L : Nat} {xs : Nat → Int32} (hL : L ≤ 2560) (C0 : lw_At p s m meth c b L xs) (hKN : th_K Y s) (hts : ∀ w ∈ th_G, w.before #[Value.ref b] s = true) (hT : th_T (fun q : Nat => s.heap.size ≤ q) s) (hnc : th_nc s) (g o oo : Nat) (S : th_S) (i : Nat) (hi : i + 5 ≤ L) {H : Heap} {locs : List Loc} {cells slots : Nat} (hcl : cells + 8 ≤ 601024) (hsl : slots + 400 ≤ 7293034) (hI : th_LI Y s.heap.size g o oo S H) (hS : va_S (fun q : Nat => s.heap.size ≤ q) s.heap H locs) {ls : Array Slot} (hl : lv_has ls 7 [(0, .ref b), (1, .ref g), (2, .ref o), (3, .ref oo), (4, .int (nI i))]) (hcont : th_LC p l e s m below meth c b Y g o oo i cells slots) : W p l e room_1 s m #[Value.ref b] below meth c H locs cells slots (lw_Z below #[Value.ref b] s) (F0 m 168 ls []) := by
  obtain ⟨hx, hb, hr, hml, hown, hts9, hX, hbl, hlk, hgv⟩ := id C0
  obtain ⟨hK, hN⟩ := hKN
  have hown : s.vm.findClass RL = some m.cls := hown
  have hbA : ¬ (fun q : Nat => s.heap.size ≤ q) b := Nat.not_le.mpr hbl
  obtain ⟨ro, thr, f9, rfl, hJ, hro, hoo, hR, hO, hg⟩ := hI
  obtain ⟨ad, Vx, B, dsx, kvx, ks, wy, wz, rfl, hAd, hGI⟩ := hg
  have hAA := th_LAA hS.1 hO.lt (th_RGlt hR) hAd
  have hno : ¬ th_gA ad S.1 H.size oo := fun h9 => (hAA _ h9).2.1 rfl
  have hl : lv_has ls 7 [(0, .ref b), (1, .ref (ad 0)), (2, .ref (ro 0)), (3, .ref oo), (4, .int (nI i))] := hl
  refine lv_aload_n hx hb dL_law_168 rfl (lv_at hl 1 rfl) ?_
  refine lv_aload_n hx hb dL_law_169 rfl (lv_at hl 0 rfl) ?_
  refine lv_iload hx hb dL_law_170 (lv_at hl 4 rfl) ?_
  refine lv_iconst (v := nI 1) hx hb dL_law_172 (by decide) ?_
  refine lv_iadd hx hb dL_law_173 ?_
  refine th_ti (nI_add _ _) ?_
  refine th_sld hx hb hX hbl hbA hS (j := i + 1) (by omega) hL dL_law_174 ?_
  refine lv_aload_n hx hb dL_law_175 rfl (lv_at hl 0 rfl) ?_
  refine lv_iload hx hb dL_law_176 (lv_at hl 4 rfl) ?_
  refine lv_iconst (v := nI 2) hx hb dL_law_178 (by decide) ?_
  refine lv_iadd hx hb dL_law_179 ?_
  refine th_ti (nI_add _ _) ?_
  refine th_sld hx hb hX hbl hbA hS (j := i + 2) (by omega) hL dL_law_180 ?_
  refine lv_aload_n hx hb dL_law_181 rfl (lv_at hl 3 rfl) ?_
  refine thw_callS hx hb hml hown hts ⟨hK, hN⟩ hl hS ⟨hT, rfl, hnc⟩ (rest := []) (c_L_append l hl0 Y _ ad S Vx B dsx kvx ks wy wz hGI oo f9 hO hno (xs (i + 1)) (xs (i + 2))) tw_1_167 tw_1_0 tw_1_166 (by decide +kernel) (k := 4) tw_1_165 dL_law_182 rfl rfl (Nat.le_of_ble_eq_true rfl) ⟨(Nat.le_of_ble_eq_true rfl), (Nat.le_of_ble_eq_true rfl)⟩ ⟨hcl, hsl⟩ (fun q9 h9 => h9.elim (fun h8 => (hAA q9 h8).1) (fun e9 => by rw [e9]; exact hoo)) (fun v9 H1 locs hp hsm hS => ?_)
  have hk3 := k3_append S (xs (i + 1)) (xs (i + 2))
  generalize hre : sp_append S (xs (i + 1)) (xs (i + 2)) = r at hp hk3
  obtain ⟨rfl, hg1, f1, hO1, hf1⟩ := hp
  obtain ⟨hR, hg⟩ := th_Lw hAA hro hR hg1 (fun q9 h9 => h9) hsm
  have hO := hO1
  refine lv_istore (lv' := [(5, .int (nI r.1)), (0, .ref b), (1, .ref (ad 0)), (2, .ref (ro 0)), (3, .ref oo), (4, .int (nI i))]) hx hb dL_law_185 hl (by decide) rfl (fun ls hl => ?_)
  refine lv_aload_n hx hb dL_law_187 rfl (lv_at hl 3 rfl) ?_
  refine lv_aload_n hx hb dL_law_188 rfl (lv_at hl 1 rfl) ?_
  refine lv_iload hx hb dL_law_189 (lv_at hl 5 rfl) ?_
  refine lv_iconst (v := nI 1) hx hb dL_law_191 (by decide) ?_
  refine lv_iadd hx hb dL_law_192 ?_
  refine th_ti (nI_add _ _) ?_
  refine th_sld hx hb hX hbl hbA hS (j := i + 1) (by omega) hL dL_law_193 ?_
  refine lv_aload_n hx hb dL_law_194 rfl (lv_at hl 1 rfl) ?_
  refine lv_iload hx hb dL_law_195 (lv_at hl 5 rfl) ?_
  refine lv_iconst (v := nI 2) hx hb dL_law_197 (by decide) ?_
  refine lv_iadd hx hb dL_law_198 ?_
  refine th_ti (nI_add _ _) ?_
  refine th_sld hx hb hX hbl hbA hS (j := i + 2) (by omega) hL dL_law_199 ?_
  obtain ⟨stp, efr, esz, etr, val, siz, tre, spa, pro, bes, isr, key, lev, kvi, ksz, krt, ala, fol, cts, hPr, hvr⟩ := id hR
  obtain ⟨fs9, hB9⟩ := th_RG0 hR
  refine th_callV hx hb hml hown hts ⟨hK, hN⟩ hl hS hB9 rfl (rest := []) (c_X6_append l Y _ ro hJ S _ stp efr esz etr val siz tre spa pro bes isr key lev kvi ksz krt ala fol cts hPr hvr (xs (i + 1)) (xs (i + 2))) ok_X6_append tw_3_226 dL_law_200 rfl rfl (Nat.le_of_ble_eq_true rfl) ⟨(Nat.le_of_ble_eq_true rfl), (Nat.le_of_ble_eq_true rfl)⟩ ⟨hcl, hsl⟩ (fun q9 h9 => by obtain ⟨j9, hj9, e9⟩ := th_inro h9; rw [← e9]; exact (hro j9 hj9).1) (th_ki (fun x9 H2 locs hp hsm2 hS => ?_))
  rw [hre] at hp
  obtain ⟨hx9, hR⟩ := hp
  obtain ⟨hO, hg⟩ := th_Lm hro hO hg hsm2
  refine lv_istore (lv' := [(6, .int x9), (5, .int (nI r.1)), (0, .ref b), (1, .ref (ad 0)), (2, .ref (ro 0)), (3, .ref oo), (4, .int (nI i))]) hx hb dL_law_203 hl (by decide) rfl (fun ls hl => ?_)
  refine lv_aload_n hx hb dL_law_205 rfl (lv_at hl 4 rfl) ?_
  obtain ⟨fs9, hB9⟩ := th_RG0 hR
  refine th_callV hx hb hml hown hts ⟨hK, hN⟩ hl hS hB9 rfl (rest := []) (th_Lthr l hR) ok_X6_thrown tw_3_222 dL_law_206 rfl rfl (Nat.le_of_ble_eq_true rfl) ⟨(Nat.le_of_ble_eq_true rfl), (Nat.le_of_ble_eq_true rfl)⟩ ⟨hcl, hsl⟩ (fun _ h9 => h9.elim) (th_kpi (fun locs hS => ?_))
  refine lv_iload hx hb dL_law_209 (lv_at hl 1 rfl) ?_
  refine lv_icmp_eq (tgt := 216) hx hb dL_law_211 (by decide) (fun c_1 => ?_) (fun c_1 => by exfalso; exact c_1 rfl)
  refine lv_iload hx hb dL_law_216 (lv_at hl 1 rfl) ?_
  refine lv_if_ne (tgt := 233) hx hb dL_law_218 (by decide) (fun hc9 => ?_) (fun hc9 => ?_)
  · skip
    refine lv_goto (tgt := 1949) hx hb dL_law_233 (by decide) ?_
    exact hcont _ _ _ _ ⟨ro, _, _, rfl, hJ, hro, hoo, hR, hO, hg⟩ hS (lv_sub hl [2, 3, 4, 5, 6] rfl)
  have hr0 : r.1 = 0 := (th_nI0 hk3).mp hc9
  have hx9 := hx9 hr0
  have hf1 := hf1 hr0
  refine lv_aload_n hx hb dL_law_221 rfl (lv_at hl 5 rfl) ?_
  refine lv_iconst (v := nI 0) hx hb dL_law_222 (by decide) ?_
  refine th_lal0 hx hb hK hO dL_law_223 ?_
  refine lv_iload hx hb dL_law_224 (lv_at hl 0 rfl) ?_
  refine lv_i2l hx hb dL_law_226 rfl ?_
  refine th_lcmp0 (hf1.trans (congrArg Int32.toInt64 hx9.symm)) hx hb dL_law_227 ?_
  refine th_zeq (tgt := 233) hx hb dL_law_228 (by decide) (by omega) (fun c_2 => ?_) (fun c_2 => by exfalso; omega)
  refine lv_goto (tgt := 1949) hx hb dL_law_233 (by decide) ?_
  exact hcont _ _ _ _ ⟨ro, _, _, rfl, hJ, hro, hoo, hR, hO, hg⟩ hS (lv_sub hl [2, 3, 4, 5, 6] rfl)

set_option maxRecDepth 100000 in
set_option maxHeartbeats 1600000 in
theorem law_c1 {p : Program} {e : Env} {s : State} {m : MethodId} {below : List Frame} {meth : Method} {c : Code} (l : Launch) (hl0 : l.stackTraces = false) (Y : th_Y) {b L : Nat} {xs : Nat → Int32} (hL : L ≤ 2560) (C0 : lw_At p s m meth c b L xs) (hKN : th_K Y s) (hts : ∀ w ∈ th_G, w.before #[Value.ref b] s = true) (hT : th_T (fun q : Nat => s.heap.size ≤ q) s) (hnc : th_nc s) (g o oo : Nat) (S : th_S) (i : Nat) (hi : i + 5 ≤ L) {H : Heap} {locs : List Loc} {cells slots : Nat} (hcl : cells + 8 ≤ 601024) (hsl : slots + 400 ≤ 7293034) (hI : th_LI Y s.heap.size g o oo S H) (hS : va_S (fun q : Nat => s.heap.size ≤ q) s.heap H locs) {ls : Array Slot} (hl : lv_has ls 7 [(0, .ref b), (1, .ref g), (2, .ref o), (3, .ref oo), (4, .int (nI i))]) (hcont : th_LC p l e s m below meth c b Y g o oo i cells slots) : W p l e room_1 s m #[Value.ref b] below meth c H locs cells slots (lw_Z below #[Value.ref b] s) (F0 m 236 ls []) := by
  obtain ⟨hx, hb, hr, hml, hown, hts9, hX, hbl, hlk, hgv⟩ := id C0
  obtain ⟨hK, hN⟩ := hKN
  have hown : s.vm.findClass RL = some m.cls := hown
  have hbA : ¬ (fun q : Nat => s.heap.size ≤ q) b := Nat.not_le.mpr hbl
  obtain ⟨ro, thr, f9, rfl, hJ, hro, hoo, hR, hO, hg⟩ := hI
  obtain ⟨ad, Vx, B, dsx, kvx, ks, wy, wz, rfl, hAd, hGI⟩ := hg
  have hAA := th_LAA hS.1 hO.lt (th_RGlt hR) hAd
  have hno : ¬ th_gA ad S.1 H.size oo := fun h9 => (hAA _ h9).2.1 rfl
  have hl : lv_has ls 7 [(0, .ref b), (1, .ref (ad 0)), (2, .ref (ro 0)), (3, .ref oo), (4, .int (nI i))] := hl
  refine lv_aload_n hx hb dL_law_236 rfl (lv_at hl 1 rfl) ?_
  refine lv_aload_n hx hb dL_law_237 rfl (lv_at hl 0 rfl) ?_
  refine lv_iload hx hb dL_law_238 (lv_at hl 4 rfl) ?_
  refine lv_iconst (v := nI 1) hx hb dL_law_240 (by decide) ?_
  refine lv_iadd hx hb dL_law_241 ?_
  refine th_ti (nI_add _ _) ?_
  refine th_sld hx hb hX hbl hbA hS (j := i + 1) (by omega) hL dL_law_242 ?_
  refine lv_aload_n hx hb dL_law_243 rfl (lv_at hl 0 rfl) ?_
  refine lv_iload hx hb dL_law_244 (lv_at hl 4 rfl) ?_
  refine lv_iconst (v := nI 2) hx hb dL_law_246 (by decide) ?_
  refine lv_iadd hx hb dL_law_247 ?_
  refine th_ti (nI_add _ _) ?_
  refine th_sld hx hb hX hbl hbA hS (j := i + 2) (by omega) hL dL_law_248 ?_
  refine lv_aload_n hx hb dL_law_249 rfl (lv_at hl 0 rfl) ?_
  refine lv_iload hx hb dL_law_250 (lv_at hl 4 rfl) ?_
  refine lv_iconst (v := nI 3) hx hb dL_law_252 (by decide) ?_
  refine lv_iadd hx hb dL_law_253 ?_
  refine th_ti (nI_add _ _) ?_
  refine th_sld hx hb hX hbl hbA hS (j := i + 3) (by omega) hL dL_law_254 ?_
  refine lv_aload_n hx hb dL_law_255 rfl (lv_at hl 3 rfl) ?_
  refine thw_callS hx hb hml hown hts ⟨hK, hN⟩ hl hS ⟨hT, rfl, hnc⟩ (rest := []) (c_L_appendRow l hl0 Y _ ad S Vx B dsx kvx ks wy wz hGI oo f9 hO hno (xs (i + 1)) (xs (i + 2)) (xs (i + 3))) tw_2_64 tw_1_0 tw_2_63 (by decide +kernel) (k := 5) tw_2_62 dL_law_256 rfl rfl (Nat.le_of_ble_eq_true rfl) ⟨(Nat.le_of_ble_eq_true rfl), (Nat.le_of_ble_eq_true rfl)⟩ ⟨hcl, hsl⟩ (fun q9 h9 => h9.elim (fun h8 => (hAA q9 h8).1) (fun e9 => by rw [e9]; exact hoo)) (fun v9 H1 locs hp hsm hS => ?_)
  have hk3 := k3_appendRow S (xs (i + 1)) (xs (i + 2)) (xs (i + 3))
  generalize hre : sp_appendRow S (xs (i + 1)) (xs (i + 2)) (xs (i + 3)) = r at hp hk3
  obtain ⟨rfl, hg1, f1, hO1, hf1⟩ := hp
  obtain ⟨hR, hg⟩ := th_Lw hAA hro hR hg1 (fun q9 h9 => h9) hsm
  have hO := hO1
  refine lv_istore (lv' := [(5, .int (nI r.1)), (0, .ref b), (1, .ref (ad 0)), (2, .ref (ro 0)), (3, .ref oo), (4, .int (nI i))]) hx hb dL_law_259 hl (by decide) rfl (fun ls hl => ?_)
  refine lv_aload_n hx hb dL_law_261 rfl (lv_at hl 3 rfl) ?_
  refine lv_aload_n hx hb dL_law_262 rfl (lv_at hl 1 rfl) ?_
  refine lv_iload hx hb dL_law_263 (lv_at hl 5 rfl) ?_
  refine lv_iconst (v := nI 1) hx hb dL_law_265 (by decide) ?_
  refine lv_iadd hx hb dL_law_266 ?_
  refine th_ti (nI_add _ _) ?_
  refine th_sld hx hb hX hbl hbA hS (j := i + 1) (by omega) hL dL_law_267 ?_
  refine lv_aload_n hx hb dL_law_268 rfl (lv_at hl 1 rfl) ?_
  refine lv_iload hx hb dL_law_269 (lv_at hl 5 rfl) ?_
  refine lv_iconst (v := nI 2) hx hb dL_law_271 (by decide) ?_
  refine lv_iadd hx hb dL_law_272 ?_
  refine th_ti (nI_add _ _) ?_
  refine th_sld hx hb hX hbl hbA hS (j := i + 2) (by omega) hL dL_law_273 ?_
  refine lv_aload_n hx hb dL_law_274 rfl (lv_at hl 1 rfl) ?_
  refine lv_iload hx hb dL_law_275 (lv_at hl 5 rfl) ?_
  refine lv_iconst (v := nI 3) hx hb dL_law_277 (by decide) ?_
  refine lv_iadd hx hb dL_law_278 ?_
  refine th_ti (nI_add _ _) ?_
  refine th_sld hx hb hX hbl hbA hS (j := i + 3) (by omega) hL dL_law_279 ?_
  obtain ⟨stp, efr, esz, etr, val, siz, tre, spa, pro, bes, isr, key, lev, kvi, ksz, krt, ala, fol, cts, hPr, hvr⟩ := id hR
  obtain ⟨fs9, hB9⟩ := th_RG0 hR
  refine th_callV hx hb hml hown hts ⟨hK, hN⟩ hl hS hB9 rfl (rest := []) (c_X6_appendRow l Y _ ro hJ S _ stp efr esz etr val siz tre spa pro bes isr key lev kvi ksz krt ala fol cts hPr hvr (xs (i + 1)) (xs (i + 2)) (xs (i + 3))) ok_X6_appendRow tw_4_5 dL_law_280 rfl rfl (Nat.le_of_ble_eq_true rfl) ⟨(Nat.le_of_ble_eq_true rfl), (Nat.le_of_ble_eq_true rfl)⟩ ⟨hcl, hsl⟩ (fun q9 h9 => by obtain ⟨j9, hj9, e9⟩ := th_inro h9; rw [← e9]; exact (hro j9 hj9).1) (th_ki (fun x9 H2 locs hp hsm2 hS => ?_))
  rw [hre] at hp
  obtain ⟨hx9, hR⟩ := hp
  obtain ⟨hO, hg⟩ := th_Lm hro hO hg hsm2
  refine lv_istore (lv' := [(6, .int x9), (5, .int (nI r.1)), (0, .ref b), (1, .ref (ad 0)), (2, .ref (ro 0)), (3, .ref oo), (4, .int (nI i))]) hx hb dL_law_283 hl (by decide) rfl (fun ls hl => ?_)
  refine lv_aload_n hx hb dL_law_285 rfl (lv_at hl 4 rfl) ?_
  obtain ⟨fs9, hB9⟩ := th_RG0 hR
  refine th_callV hx hb hml hown hts ⟨hK, hN⟩ hl hS hB9 rfl (rest := []) (th_Lthr l hR) ok_X6_thrown tw_3_222 dL_law_286 rfl rfl (Nat.le_of_ble_eq_true rfl) ⟨(Nat.le_of_ble_eq_true rfl), (Nat.le_of_ble_eq_true rfl)⟩ ⟨hcl, hsl⟩ (fun _ h9 => h9.elim) (th_kpi (fun locs hS => ?_))
  refine lv_iload hx hb dL_law_289 (lv_at hl 1 rfl) ?_
  refine lv_icmp_eq (tgt := 296) hx hb dL_law_291 (by decide) (fun c_1 => ?_) (fun c_1 => by exfalso; exact c_1 rfl)
  refine lv_iload hx hb dL_law_296 (lv_at hl 1 rfl) ?_
  refine lv_if_ne (tgt := 313) hx hb dL_law_298 (by decide) (fun hc9 => ?_) (fun hc9 => ?_)
  · skip
    refine lv_goto (tgt := 1949) hx hb dL_law_313 (by decide) ?_
    exact hcont _ _ _ _ ⟨ro, _, _, rfl, hJ, hro, hoo, hR, hO, hg⟩ hS (lv_sub hl [2, 3, 4, 5, 6] rfl)
  have hr0 : r.1 = 0 := (th_nI0 hk3).mp hc9
  have hx9 := hx9 hr0
  have hf1 := hf1 hr0
  refine lv_aload_n hx hb dL_law_301 rfl (lv_at hl 5 rfl) ?_
  refine lv_iconst (v := nI 0) hx hb dL_law_302 (by decide) ?_
  refine th_lal0 hx hb hK hO dL_law_303 ?_
  refine lv_iload hx hb dL_law_304 (lv_at hl 0 rfl) ?_
  refine lv_i2l hx hb dL_law_306 rfl ?_
  refine th_lcmp0 (hf1.trans (congrArg Int32.toInt64 hx9.symm)) hx hb dL_law_307 ?_
  refine th_zeq (tgt := 313) hx hb dL_law_308 (by decide) (by omega) (fun c_2 => ?_) (fun c_2 => by exfalso; omega)
  refine lv_goto (tgt := 1949) hx hb dL_law_313 (by decide) ?_
  exact hcont _ _ _ _ ⟨ro, _, _, rfl, hJ, hro, hoo, hR, hO, hg⟩ hS (lv_sub hl [2, 3, 4, 5, 6] rfl)

set_option maxRecDepth 100000 in
set_option maxHeartbeats 1600000 in
theorem law_c2 {p : Program} {e : Env} {s : State} {m : MethodId} {below : List Frame} {meth : Method} {c : Code} (l : Launch) (hl0 : l.stackTraces = false) (Y : th_Y) {b L : Nat} {xs : Nat → Int32} (hL : L ≤ 2560) (C0 : lw_At p s m meth c b L xs) (hKN : th_K Y s) (hts : ∀ w ∈ th_G, w.before #[Value.ref b] s = true) (hT : th_T (fun q : Nat => s.heap.size ≤ q) s) (hnc : th_nc s) (g o oo : Nat) (S : th_S) (i : Nat) (hi : i + 5 ≤ L) {H : Heap} {locs : List Loc} {cells slots : Nat} (hcl : cells + 8 ≤ 601024) (hsl : slots + 400 ≤ 7293034) (hI : th_LI Y s.heap.size g o oo S H) (hS : va_S (fun q : Nat => s.heap.size ≤ q) s.heap H locs) {ls : Array Slot} (hl : lv_has ls 7 [(0, .ref b), (1, .ref g), (2, .ref o), (3, .ref oo), (4, .int (nI i))]) (hcont : th_LC p l e s m below meth c b Y g o oo i cells slots) : W p l e room_1 s m #[Value.ref b] below meth c H locs cells slots (lw_Z below #[Value.ref b] s) (F0 m 316 ls []) := by
  obtain ⟨hx, hb, hr, hml, hown, hts9, hX, hbl, hlk, hgv⟩ := id C0
  obtain ⟨hK, hN⟩ := hKN
  have hown : s.vm.findClass RL = some m.cls := hown
  have hbA : ¬ (fun q : Nat => s.heap.size ≤ q) b := Nat.not_le.mpr hbl
  obtain ⟨ro, thr, f9, rfl, hJ, hro, hoo, hR, hO, hg⟩ := hI
  obtain ⟨ad, Vx, B, dsx, kvx, ks, wy, wz, rfl, hAd, hGI⟩ := hg
  have hAA := th_LAA hS.1 hO.lt (th_RGlt hR) hAd
  have hno : ¬ th_gA ad S.1 H.size oo := fun h9 => (hAA _ h9).2.1 rfl
  have hl : lv_has ls 7 [(0, .ref b), (1, .ref (ad 0)), (2, .ref (ro 0)), (3, .ref oo), (4, .int (nI i))] := hl
  refine lv_aload_n hx hb dL_law_316 rfl (lv_at hl 1 rfl) ?_
  refine lv_aload_n hx hb dL_law_317 rfl (lv_at hl 0 rfl) ?_
  refine lv_iload hx hb dL_law_318 (lv_at hl 4 rfl) ?_
  refine lv_iconst (v := nI 1) hx hb dL_law_320 (by decide) ?_
  refine lv_iadd hx hb dL_law_321 ?_
  refine th_ti (nI_add _ _) ?_
  refine th_sld hx hb hX hbl hbA hS (j := i + 1) (by omega) hL dL_law_322 ?_
  refine lv_aload_n hx hb dL_law_323 rfl (lv_at hl 0 rfl) ?_
  refine lv_iload hx hb dL_law_324 (lv_at hl 4 rfl) ?_
  refine lv_iconst (v := nI 2) hx hb dL_law_326 (by decide) ?_
  refine lv_iadd hx hb dL_law_327 ?_
  refine th_ti (nI_add _ _) ?_
  refine th_sld hx hb hX hbl hbA hS (j := i + 2) (by omega) hL dL_law_328 ?_
  refine lv_aload_n hx hb dL_law_329 rfl (lv_at hl 3 rfl) ?_
  refine thw_callS hx hb hml hown hts ⟨hK, hN⟩ hl hS ⟨hT, rfl, hnc⟩ (rest := []) (c_L_fork l hl0 Y _ ad S Vx B dsx kvx ks wy wz hGI oo f9 hO hno (xs (i + 1)) (xs (i + 2))) tw_2_71 tw_1_0 tw_2_70 (by decide +kernel) (k := 4) tw_2_69 dL_law_330 rfl rfl (Nat.le_of_ble_eq_true rfl) ⟨(Nat.le_of_ble_eq_true rfl), (Nat.le_of_ble_eq_true rfl)⟩ ⟨hcl, hsl⟩ (fun q9 h9 => h9.elim (fun h8 => (hAA q9 h8).1) (fun e9 => by rw [e9]; exact hoo)) (fun v9 H1 locs hp hsm hS => ?_)
  have hk3 := k3_fork S (xs (i + 1)) (xs (i + 2))
  generalize hre : sp_fork S (xs (i + 1)) (xs (i + 2)) = r at hp hk3
  obtain ⟨rfl, hg1, f1, hO1, hf1⟩ := hp
  obtain ⟨hR, hg⟩ := th_Lw hAA hro hR hg1 (fun q9 h9 => h9) hsm
  have hO := hO1
  refine lv_istore (lv' := [(5, .int (nI r.1)), (0, .ref b), (1, .ref (ad 0)), (2, .ref (ro 0)), (3, .ref oo), (4, .int (nI i))]) hx hb dL_law_333 hl (by decide) rfl (fun ls hl => ?_)
  refine lv_aload_n hx hb dL_law_335 rfl (lv_at hl 3 rfl) ?_
  refine lv_aload_n hx hb dL_law_336 rfl (lv_at hl 1 rfl) ?_
  refine lv_iload hx hb dL_law_337 (lv_at hl 5 rfl) ?_
  refine lv_iconst (v := nI 1) hx hb dL_law_339 (by decide) ?_
  refine lv_iadd hx hb dL_law_340 ?_
  refine th_ti (nI_add _ _) ?_
  refine th_sld hx hb hX hbl hbA hS (j := i + 1) (by omega) hL dL_law_341 ?_
  refine lv_aload_n hx hb dL_law_342 rfl (lv_at hl 1 rfl) ?_
  refine lv_iload hx hb dL_law_343 (lv_at hl 5 rfl) ?_
  refine lv_iconst (v := nI 2) hx hb dL_law_345 (by decide) ?_
  refine lv_iadd hx hb dL_law_346 ?_
  refine th_ti (nI_add _ _) ?_
  refine th_sld hx hb hX hbl hbA hS (j := i + 2) (by omega) hL dL_law_347 ?_
  obtain ⟨stp, efr, esz, etr, val, siz, tre, spa, pro, bes, isr, key, lev, kvi, ksz, krt, ala, fol, cts, hPr, hvr⟩ := id hR
  obtain ⟨fs9, hB9⟩ := th_RG0 hR
  refine th_callV hx hb hml hown hts ⟨hK, hN⟩ hl hS hB9 rfl (rest := []) (c_X6_fork l Y _ ro hJ S _ stp efr esz etr val siz tre spa pro bes isr key lev kvi ksz krt ala fol cts hPr hvr (xs (i + 1)) (xs (i + 2))) ok_X6_fork tw_4_9 dL_law_348 rfl rfl (Nat.le_of_ble_eq_true rfl) ⟨(Nat.le_of_ble_eq_true rfl), (Nat.le_of_ble_eq_true rfl)⟩ ⟨hcl, hsl⟩ (fun q9 h9 => by obtain ⟨j9, hj9, e9⟩ := th_inro h9; rw [← e9]; exact (hro j9 hj9).1) (th_ki (fun x9 H2 locs hp hsm2 hS => ?_))
  rw [hre] at hp
  obtain ⟨hx9, hR⟩ := hp
  obtain ⟨hO, hg⟩ := th_Lm hro hO hg hsm2
  refine lv_istore (lv' := [(6, .int x9), (5, .int (nI r.1)), (0, .ref b), (1, .ref (ad 0)), (2, .ref (ro 0)), (3, .ref oo), (4, .int (nI i))]) hx hb dL_law_351 hl (by decide) rfl (fun ls hl => ?_)
  refine lv_aload_n hx hb dL_law_353 rfl (lv_at hl 4 rfl) ?_
  obtain ⟨fs9, hB9⟩ := th_RG0 hR
  refine th_callV hx hb hml hown hts ⟨hK, hN⟩ hl hS hB9 rfl (rest := []) (th_Lthr l hR) ok_X6_thrown tw_3_222 dL_law_354 rfl rfl (Nat.le_of_ble_eq_true rfl) ⟨(Nat.le_of_ble_eq_true rfl), (Nat.le_of_ble_eq_true rfl)⟩ ⟨hcl, hsl⟩ (fun _ h9 => h9.elim) (th_kpi (fun locs hS => ?_))
  refine lv_iload hx hb dL_law_357 (lv_at hl 1 rfl) ?_
  refine lv_icmp_eq (tgt := 364) hx hb dL_law_359 (by decide) (fun c_1 => ?_) (fun c_1 => by exfalso; exact c_1 rfl)
  refine lv_iload hx hb dL_law_364 (lv_at hl 1 rfl) ?_
  refine lv_if_ne (tgt := 381) hx hb dL_law_366 (by decide) (fun hc9 => ?_) (fun hc9 => ?_)
  · skip
    refine lv_goto (tgt := 1949) hx hb dL_law_381 (by decide) ?_
    exact hcont _ _ _ _ ⟨ro, _, _, rfl, hJ, hro, hoo, hR, hO, hg⟩ hS (lv_sub hl [2, 3, 4, 5, 6] rfl)
  have hr0 : r.1 = 0 := (th_nI0 hk3).mp hc9
  have hx9 := hx9 hr0
  have hf1 := hf1 hr0
  refine lv_aload_n hx hb dL_law_369 rfl (lv_at hl 5 rfl) ?_
  refine lv_iconst (v := nI 0) hx hb dL_law_370 (by decide) ?_
  refine th_lal0 hx hb hK hO dL_law_371 ?_
  refine lv_iload hx hb dL_law_372 (lv_at hl 0 rfl) ?_
  refine lv_i2l hx hb dL_law_374 rfl ?_
  refine th_lcmp0 (hf1.trans (congrArg Int32.toInt64 hx9.symm)) hx hb dL_law_375 ?_
  refine th_zeq (tgt := 381) hx hb dL_law_376 (by decide) (by omega) (fun c_2 => ?_) (fun c_2 => by exfalso; omega)
  refine lv_goto (tgt := 1949) hx hb dL_law_381 (by decide) ?_
  exact hcont _ _ _ _ ⟨ro, _, _, rfl, hJ, hro, hoo, hR, hO, hg⟩ hS (lv_sub hl [2, 3, 4, 5, 6] rfl)

set_option maxRecDepth 100000 in
set_option maxHeartbeats 1600000 in
theorem law_c3 {p : Program} {e : Env} {s : State} {m : MethodId} {below : List Frame} {meth : Method} {c : Code} (l : Launch) (hl0 : l.stackTraces = false) (Y : th_Y) {b L : Nat} {xs : Nat → Int32} (hL : L ≤ 2560) (C0 : lw_At p s m meth c b L xs) (hKN : th_K Y s) (hts : ∀ w ∈ th_G, w.before #[Value.ref b] s = true) (hT : th_T (fun q : Nat => s.heap.size ≤ q) s) (hnc : th_nc s) (g o oo : Nat) (S : th_S) (i : Nat) (hi : i + 5 ≤ L) {H : Heap} {locs : List Loc} {cells slots : Nat} (hcl : cells + 8 ≤ 601024) (hsl : slots + 400 ≤ 7293034) (hI : th_LI Y s.heap.size g o oo S H) (hS : va_S (fun q : Nat => s.heap.size ≤ q) s.heap H locs) {ls : Array Slot} (hl : lv_has ls 7 [(0, .ref b), (1, .ref g), (2, .ref o), (3, .ref oo), (4, .int (nI i))]) (hcont : th_LC p l e s m below meth c b Y g o oo i cells slots) : W p l e room_1 s m #[Value.ref b] below meth c H locs cells slots (lw_Z below #[Value.ref b] s) (F0 m 384 ls []) := by
  obtain ⟨hx, hb, hr, hml, hown, hts9, hX, hbl, hlk, hgv⟩ := id C0
  obtain ⟨hK, hN⟩ := hKN
  have hown : s.vm.findClass RL = some m.cls := hown
  have hbA : ¬ (fun q : Nat => s.heap.size ≤ q) b := Nat.not_le.mpr hbl
  obtain ⟨ro, thr, f9, rfl, hJ, hro, hoo, hR, hO, hg⟩ := hI
  obtain ⟨ad, Vx, B, dsx, kvx, ks, wy, wz, rfl, hAd, hGI⟩ := hg
  have hAA := th_LAA hS.1 hO.lt (th_RGlt hR) hAd
  have hno : ¬ th_gA ad S.1 H.size oo := fun h9 => (hAA _ h9).2.1 rfl
  have hl : lv_has ls 7 [(0, .ref b), (1, .ref (ad 0)), (2, .ref (ro 0)), (3, .ref oo), (4, .int (nI i))] := hl
  refine lv_aload_n hx hb dL_law_384 rfl (lv_at hl 1 rfl) ?_
  refine th_callV hx hb hml hown hts ⟨hK, hN⟩ hl hS ((th_gO hGI.1) 0 _ rfl) rfl (rest := []) (c_X5_views l Y _ ad S Vx B dsx kvx ks wy wz hGI) ok_X5_views tw_1_149 dL_law_385 rfl rfl (Nat.le_of_ble_eq_true rfl) ⟨(Nat.le_of_ble_eq_true rfl), (Nat.le_of_ble_eq_true rfl)⟩ ⟨hcl, hsl⟩ (fun q9 h9 => (hAA q9 h9).1) (th_ki (fun y9 H1 locs hp hsm hS => ?_))
  obtain ⟨-, hy9, hg1⟩ := hp
  have hO := hO.kept (hsm.2 _ hO.lt hno)
  obtain ⟨hR, hg⟩ := th_Lw hAA hro hR hg1 (fun q9 h9 => Or.inl h9) hsm
  refine lv_aload_n hx hb dL_law_388 rfl (lv_at hl 2 rfl) ?_
  obtain ⟨stp, efr, esz, etr, val, siz, tre, spa, pro, bes, isr, key, lev, kvi, ksz, krt, ala, fol, cts, hPr, hvr⟩ := id hR
  obtain ⟨fs9, hB9⟩ := th_RG0 hR
  refine th_callV hx hb hml hown hts ⟨hK, hN⟩ hl hS hB9 rfl (rest := [.int y9]) (c_X6_views l Y _ ro hJ S _ stp efr esz etr val siz tre spa pro bes isr key lev kvi ksz krt ala fol cts hPr hvr) ok_X6_views tw_4_13 dL_law_389 rfl rfl (Nat.le_of_ble_eq_true rfl) ⟨(Nat.le_of_ble_eq_true rfl), (Nat.le_of_ble_eq_true rfl)⟩ ⟨hcl, hsl⟩ (fun q9 h9 => by obtain ⟨j9, hj9, e9⟩ := th_inro h9; rw [← e9]; exact (hro j9 hj9).1) (th_ki (fun x9 H2 locs hp hsm2 hS => ?_))
  obtain ⟨hx9, hR⟩ := hp
  have hx9 : x9 = y9 := (hx9 rfl).trans hy9.symm
  obtain ⟨hO, hg⟩ := th_Lm hro hO hg hsm2
  refine lv_icmp_eq (tgt := 1949) hx hb dL_law_392 (by decide) (fun c_1 => ?_) (fun c_1 => by exfalso; exact c_1 hx9.symm)
  exact hcont _ _ _ _ ⟨ro, _, _, rfl, hJ, hro, hoo, hR, hO, hg⟩ hS (lv_sub hl [0, 1, 2, 3, 4] rfl)

set_option maxRecDepth 100000 in
set_option maxHeartbeats 1600000 in
theorem law_c4 {p : Program} {e : Env} {s : State} {m : MethodId} {below : List Frame} {meth : Method} {c : Code} (l : Launch) (hl0 : l.stackTraces = false) (Y : th_Y) {b L : Nat} {xs : Nat → Int32} (hL : L ≤ 2560) (C0 : lw_At p s m meth c b L xs) (hKN : th_K Y s) (hts : ∀ w ∈ th_G, w.before #[Value.ref b] s = true) (hT : th_T (fun q : Nat => s.heap.size ≤ q) s) (hnc : th_nc s) (g o oo : Nat) (S : th_S) (i : Nat) (hi : i + 5 ≤ L) {H : Heap} {locs : List Loc} {cells slots : Nat} (hcl : cells + 8 ≤ 601024) (hsl : slots + 400 ≤ 7293034) (hI : th_LI Y s.heap.size g o oo S H) (hS : va_S (fun q : Nat => s.heap.size ≤ q) s.heap H locs) {ls : Array Slot} (hl : lv_has ls 7 [(0, .ref b), (1, .ref g), (2, .ref o), (3, .ref oo), (4, .int (nI i))]) (hcont : th_LC p l e s m below meth c b Y g o oo i cells slots) : W p l e room_1 s m #[Value.ref b] below meth c H locs cells slots (lw_Z below #[Value.ref b] s) (F0 m 397 ls []) := by
  obtain ⟨hx, hb, hr, hml, hown, hts9, hX, hbl, hlk, hgv⟩ := id C0
  obtain ⟨hK, hN⟩ := hKN
  have hown : s.vm.findClass RL = some m.cls := hown
  have hbA : ¬ (fun q : Nat => s.heap.size ≤ q) b := Nat.not_le.mpr hbl
  obtain ⟨ro, thr, f9, rfl, hJ, hro, hoo, hR, hO, hg⟩ := hI
  obtain ⟨ad, Vx, B, dsx, kvx, ks, wy, wz, rfl, hAd, hGI⟩ := hg
  have hAA := th_LAA hS.1 hO.lt (th_RGlt hR) hAd
  have hno : ¬ th_gA ad S.1 H.size oo := fun h9 => (hAA _ h9).2.1 rfl
  have hl : lv_has ls 7 [(0, .ref b), (1, .ref (ad 0)), (2, .ref (ro 0)), (3, .ref oo), (4, .int (nI i))] := hl
  refine lv_aload_n hx hb dL_law_397 rfl (lv_at hl 1 rfl) ?_
  refine lv_aload_n hx hb dL_law_398 rfl (lv_at hl 0 rfl) ?_
  refine lv_iload hx hb dL_law_399 (lv_at hl 4 rfl) ?_
  refine lv_iconst (v := nI 1) hx hb dL_law_401 (by decide) ?_
  refine lv_iadd hx hb dL_law_402 ?_
  refine th_ti (nI_add _ _) ?_
  refine th_sld hx hb hX hbl hbA hS (j := i + 1) (by omega) hL dL_law_403 ?_
  refine lv_aload_n hx hb dL_law_404 rfl (lv_at hl 3 rfl) ?_
  refine thw_callS hx hb hml hown hts ⟨hK, hN⟩ hl hS ⟨hT, rfl, hnc⟩ (rest := []) (c_L_size l hl0 Y _ ad S Vx B dsx kvx ks wy wz hGI oo f9 hO hno (xs (i + 1))) tw_2_83 tw_1_0 tw_2_82 (by decide +kernel) (k := 3) tw_2_81 dL_law_405 rfl rfl (Nat.le_of_ble_eq_true rfl) ⟨(Nat.le_of_ble_eq_true rfl), (Nat.le_of_ble_eq_true rfl)⟩ ⟨hcl, hsl⟩ (fun q9 h9 => h9.elim (fun h8 => (hAA q9 h8).1) (fun e9 => by rw [e9]; exact hoo)) (fun v9 H1 locs hp hsm hS => ?_)
  have hk3 := k3_size S (xs (i + 1))
  generalize hre : sp_size S (xs (i + 1)) = r at hp hk3
  obtain ⟨rfl, hg1, f1, hO1, hf1⟩ := hp
  obtain ⟨hR, hg⟩ := th_Lw hAA hro hR hg1 (fun q9 h9 => h9) hsm
  have hO := hO1
  refine lv_istore (lv' := [(5, .int (nI r.1)), (0, .ref b), (1, .ref (ad 0)), (2, .ref (ro 0)), (3, .ref oo), (4, .int (nI i))]) hx hb dL_law_408 hl (by decide) rfl (fun ls hl => ?_)
  refine lv_aload_n hx hb dL_law_410 rfl (lv_at hl 3 rfl) ?_
  refine lv_aload_n hx hb dL_law_411 rfl (lv_at hl 1 rfl) ?_
  refine lv_iload hx hb dL_law_412 (lv_at hl 5 rfl) ?_
  refine lv_iconst (v := nI 1) hx hb dL_law_414 (by decide) ?_
  refine lv_iadd hx hb dL_law_415 ?_
  refine th_ti (nI_add _ _) ?_
  refine th_sld hx hb hX hbl hbA hS (j := i + 1) (by omega) hL dL_law_416 ?_
  obtain ⟨stp, efr, esz, etr, val, siz, tre, spa, pro, bes, isr, key, lev, kvi, ksz, krt, ala, fol, cts, hPr, hvr⟩ := id hR
  obtain ⟨fs9, hB9⟩ := th_RG0 hR
  refine th_callV hx hb hml hown hts ⟨hK, hN⟩ hl hS hB9 rfl (rest := []) (c_X6_size l Y _ ro hJ S _ stp efr esz etr val siz tre spa pro bes isr key lev kvi ksz krt ala fol cts hPr hvr (xs (i + 1))) ok_X6_size tw_4_17 dL_law_417 rfl rfl (Nat.le_of_ble_eq_true rfl) ⟨(Nat.le_of_ble_eq_true rfl), (Nat.le_of_ble_eq_true rfl)⟩ ⟨hcl, hsl⟩ (fun q9 h9 => by obtain ⟨j9, hj9, e9⟩ := th_inro h9; rw [← e9]; exact (hro j9 hj9).1) (th_ki (fun x9 H2 locs hp hsm2 hS => ?_))
  rw [hre] at hp
  obtain ⟨hx9, hR⟩ := hp
  obtain ⟨hO, hg⟩ := th_Lm hro hO hg hsm2
  refine lv_istore (lv' := [(6, .int x9), (5, .int (nI r.1)), (0, .ref b), (1, .ref (ad 0)), (2, .ref (ro 0)), (3, .ref oo), (4, .int (nI i))]) hx hb dL_law_420 hl (by decide) rfl (fun ls hl => ?_)
  refine lv_aload_n hx hb dL_law_422 rfl (lv_at hl 4 rfl) ?_
  obtain ⟨fs9, hB9⟩ := th_RG0 hR
  refine th_callV hx hb hml hown hts ⟨hK, hN⟩ hl hS hB9 rfl (rest := []) (th_Lthr l hR) ok_X6_thrown tw_3_222 dL_law_423 rfl rfl (Nat.le_of_ble_eq_true rfl) ⟨(Nat.le_of_ble_eq_true rfl), (Nat.le_of_ble_eq_true rfl)⟩ ⟨hcl, hsl⟩ (fun _ h9 => h9.elim) (th_kpi (fun locs hS => ?_))
  refine lv_iload hx hb dL_law_426 (lv_at hl 1 rfl) ?_
  refine lv_icmp_eq (tgt := 433) hx hb dL_law_428 (by decide) (fun c_1 => ?_) (fun c_1 => by exfalso; exact c_1 rfl)
  refine lv_iload hx hb dL_law_433 (lv_at hl 1 rfl) ?_
  refine lv_if_ne (tgt := 450) hx hb dL_law_435 (by decide) (fun hc9 => ?_) (fun hc9 => ?_)
  · skip
    refine lv_goto (tgt := 1949) hx hb dL_law_450 (by decide) ?_
    exact hcont _ _ _ _ ⟨ro, _, _, rfl, hJ, hro, hoo, hR, hO, hg⟩ hS (lv_sub hl [2, 3, 4, 5, 6] rfl)
  have hr0 : r.1 = 0 := (th_nI0 hk3).mp hc9
  have hx9 := hx9 hr0
  have hf1 := hf1 hr0
  refine lv_aload_n hx hb dL_law_438 rfl (lv_at hl 5 rfl) ?_
  refine lv_iconst (v := nI 0) hx hb dL_law_439 (by decide) ?_
  refine th_lal0 hx hb hK hO dL_law_440 ?_
  refine lv_iload hx hb dL_law_441 (lv_at hl 0 rfl) ?_
  refine lv_i2l hx hb dL_law_443 rfl ?_
  refine th_lcmp0 (hf1.trans (congrArg Int32.toInt64 hx9.symm)) hx hb dL_law_444 ?_
  refine th_zeq (tgt := 450) hx hb dL_law_445 (by decide) (by omega) (fun c_2 => ?_) (fun c_2 => by exfalso; omega)
  refine lv_goto (tgt := 1949) hx hb dL_law_450 (by decide) ?_
  exact hcont _ _ _ _ ⟨ro, _, _, rfl, hJ, hro, hoo, hR, hO, hg⟩ hS (lv_sub hl [2, 3, 4, 5, 6] rfl)

set_option maxRecDepth 100000 in
set_option maxHeartbeats 1600000 in
theorem law_c5 {p : Program} {e : Env} {s : State} {m : MethodId} {below : List Frame} {meth : Method} {c : Code} (l : Launch) (hl0 : l.stackTraces = false) (Y : th_Y) {b L : Nat} {xs : Nat → Int32} (hL : L ≤ 2560) (C0 : lw_At p s m meth c b L xs) (hKN : th_K Y s) (hts : ∀ w ∈ th_G, w.before #[Value.ref b] s = true) (hT : th_T (fun q : Nat => s.heap.size ≤ q) s) (hnc : th_nc s) (g o oo : Nat) (S : th_S) (i : Nat) (hi : i + 5 ≤ L) {H : Heap} {locs : List Loc} {cells slots : Nat} (hcl : cells + 8 ≤ 601024) (hsl : slots + 400 ≤ 7293034) (hI : th_LI Y s.heap.size g o oo S H) (hS : va_S (fun q : Nat => s.heap.size ≤ q) s.heap H locs) {ls : Array Slot} (hl : lv_has ls 7 [(0, .ref b), (1, .ref g), (2, .ref o), (3, .ref oo), (4, .int (nI i))]) (hcont : th_LC p l e s m below meth c b Y g o oo i cells slots) : W p l e room_1 s m #[Value.ref b] below meth c H locs cells slots (lw_Z below #[Value.ref b] s) (F0 m 453 ls []) := by
  obtain ⟨hx, hb, hr, hml, hown, hts9, hX, hbl, hlk, hgv⟩ := id C0
  obtain ⟨hK, hN⟩ := hKN
  have hown : s.vm.findClass RL = some m.cls := hown
  have hbA : ¬ (fun q : Nat => s.heap.size ≤ q) b := Nat.not_le.mpr hbl
  obtain ⟨ro, thr, f9, rfl, hJ, hro, hoo, hR, hO, hg⟩ := hI
  obtain ⟨ad, Vx, B, dsx, kvx, ks, wy, wz, rfl, hAd, hGI⟩ := hg
  have hAA := th_LAA hS.1 hO.lt (th_RGlt hR) hAd
  have hno : ¬ th_gA ad S.1 H.size oo := fun h9 => (hAA _ h9).2.1 rfl
  have hl : lv_has ls 7 [(0, .ref b), (1, .ref (ad 0)), (2, .ref (ro 0)), (3, .ref oo), (4, .int (nI i))] := hl
  refine lv_aload_n hx hb dL_law_453 rfl (lv_at hl 1 rfl) ?_
  refine lv_aload_n hx hb dL_law_454 rfl (lv_at hl 0 rfl) ?_
  refine lv_iload hx hb dL_law_455 (lv_at hl 4 rfl) ?_
  refine lv_iconst (v := nI 1) hx hb dL_law_457 (by decide) ?_
  refine lv_iadd hx hb dL_law_458 ?_
  refine th_ti (nI_add _ _) ?_
  refine th_sld hx hb hX hbl hbA hS (j := i + 1) (by omega) hL dL_law_459 ?_
  refine lv_aload_n hx hb dL_law_460 rfl (lv_at hl 0 rfl) ?_
  refine lv_iload hx hb dL_law_461 (lv_at hl 4 rfl) ?_
  refine lv_iconst (v := nI 2) hx hb dL_law_463 (by decide) ?_
  refine lv_iadd hx hb dL_law_464 ?_
  refine th_ti (nI_add _ _) ?_
  refine th_sld hx hb hX hbl hbA hS (j := i + 2) (by omega) hL dL_law_465 ?_
  refine lv_aload_n hx hb dL_law_466 rfl (lv_at hl 3 rfl) ?_
  refine thw_callS hx hb hml hown hts ⟨hK, hN⟩ hl hS ⟨hT, rfl, hnc⟩ (rest := []) (c_L_leaf l hl0 Y _ ad S Vx B dsx kvx ks wy wz hGI oo f9 hO hno (xs (i + 1)) (xs (i + 2))) tw_2_90 tw_1_0 tw_2_89 (by decide +kernel) (k := 4) tw_2_88 dL_law_467 rfl rfl (Nat.le_of_ble_eq_true rfl) ⟨(Nat.le_of_ble_eq_true rfl), (Nat.le_of_ble_eq_true rfl)⟩ ⟨hcl, hsl⟩ (fun q9 h9 => h9.elim (fun h8 => (hAA q9 h8).1) (fun e9 => by rw [e9]; exact hoo)) (fun v9 H1 locs hp hsm hS => ?_)
  have hk3 := k3_leaf S (xs (i + 1)) (xs (i + 2))
  generalize hre : sp_leaf S (xs (i + 1)) (xs (i + 2)) = r at hp hk3
  obtain ⟨rfl, hg1, f1, hO1, hf1⟩ := hp
  obtain ⟨hR, hg⟩ := th_Lw hAA hro hR hg1 (fun q9 h9 => h9) hsm
  have hO := hO1
  refine lv_istore (lv' := [(5, .int (nI r.1)), (0, .ref b), (1, .ref (ad 0)), (2, .ref (ro 0)), (3, .ref oo), (4, .int (nI i))]) hx hb dL_law_470 hl (by decide) rfl (fun ls hl => ?_)
  refine lv_aload_n hx hb dL_law_472 rfl (lv_at hl 3 rfl) ?_
  refine lv_aload_n hx hb dL_law_473 rfl (lv_at hl 1 rfl) ?_
  refine lv_iload hx hb dL_law_474 (lv_at hl 5 rfl) ?_
  refine lv_iconst (v := nI 1) hx hb dL_law_476 (by decide) ?_
  refine lv_iadd hx hb dL_law_477 ?_
  refine th_ti (nI_add _ _) ?_
  refine th_sld hx hb hX hbl hbA hS (j := i + 1) (by omega) hL dL_law_478 ?_
  refine lv_aload_n hx hb dL_law_479 rfl (lv_at hl 1 rfl) ?_
  refine lv_iload hx hb dL_law_480 (lv_at hl 5 rfl) ?_
  refine lv_iconst (v := nI 2) hx hb dL_law_482 (by decide) ?_
  refine lv_iadd hx hb dL_law_483 ?_
  refine th_ti (nI_add _ _) ?_
  refine th_sld hx hb hX hbl hbA hS (j := i + 2) (by omega) hL dL_law_484 ?_
  obtain ⟨stp, efr, esz, etr, val, siz, tre, spa, pro, bes, isr, key, lev, kvi, ksz, krt, ala, fol, cts, hPr, hvr⟩ := id hR
  obtain ⟨fs9, hB9⟩ := th_RG0 hR
  refine th_callV hx hb hml hown hts ⟨hK, hN⟩ hl hS hB9 rfl (rest := []) (c_X6_leaf l Y _ ro hJ S _ stp efr esz etr val siz tre spa pro bes isr key lev kvi ksz krt ala fol cts hPr hvr (xs (i + 1)) (xs (i + 2))) ok_X6_leaf tw_4_21 dL_law_485 rfl rfl (Nat.le_of_ble_eq_true rfl) ⟨(Nat.le_of_ble_eq_true rfl), (Nat.le_of_ble_eq_true rfl)⟩ ⟨hcl, hsl⟩ (fun q9 h9 => by obtain ⟨j9, hj9, e9⟩ := th_inro h9; rw [← e9]; exact (hro j9 hj9).1) (th_ki (fun x9 H2 locs hp hsm2 hS => ?_))
  rw [hre] at hp
  obtain ⟨hx9, hR⟩ := hp
  obtain ⟨hO, hg⟩ := th_Lm hro hO hg hsm2
  refine lv_istore (lv' := [(6, .int x9), (5, .int (nI r.1)), (0, .ref b), (1, .ref (ad 0)), (2, .ref (ro 0)), (3, .ref oo), (4, .int (nI i))]) hx hb dL_law_488 hl (by decide) rfl (fun ls hl => ?_)
  refine lv_aload_n hx hb dL_law_490 rfl (lv_at hl 4 rfl) ?_
  obtain ⟨fs9, hB9⟩ := th_RG0 hR
  refine th_callV hx hb hml hown hts ⟨hK, hN⟩ hl hS hB9 rfl (rest := []) (th_Lthr l hR) ok_X6_thrown tw_3_222 dL_law_491 rfl rfl (Nat.le_of_ble_eq_true rfl) ⟨(Nat.le_of_ble_eq_true rfl), (Nat.le_of_ble_eq_true rfl)⟩ ⟨hcl, hsl⟩ (fun _ h9 => h9.elim) (th_kpi (fun locs hS => ?_))
  refine lv_iload hx hb dL_law_494 (lv_at hl 1 rfl) ?_
  refine lv_icmp_eq (tgt := 501) hx hb dL_law_496 (by decide) (fun c_1 => ?_) (fun c_1 => by exfalso; exact c_1 rfl)
  refine lv_iload hx hb dL_law_501 (lv_at hl 1 rfl) ?_
  refine lv_if_ne (tgt := 518) hx hb dL_law_503 (by decide) (fun hc9 => ?_) (fun hc9 => ?_)
  · skip
    refine lv_goto (tgt := 1949) hx hb dL_law_518 (by decide) ?_
    exact hcont _ _ _ _ ⟨ro, _, _, rfl, hJ, hro, hoo, hR, hO, hg⟩ hS (lv_sub hl [2, 3, 4, 5, 6] rfl)
  have hr0 : r.1 = 0 := (th_nI0 hk3).mp hc9
  have hx9 := hx9 hr0
  have hf1 := hf1 hr0
  refine lv_aload_n hx hb dL_law_506 rfl (lv_at hl 5 rfl) ?_
  refine lv_iconst (v := nI 0) hx hb dL_law_507 (by decide) ?_
  refine th_lal0 hx hb hK hO dL_law_508 ?_
  refine lv_iload hx hb dL_law_509 (lv_at hl 0 rfl) ?_
  refine lv_i2l hx hb dL_law_511 rfl ?_
  refine th_lcmp0 (hf1.trans (congrArg Int32.toInt64 hx9.symm)) hx hb dL_law_512 ?_
  refine th_zeq (tgt := 518) hx hb dL_law_513 (by decide) (by omega) (fun c_2 => ?_) (fun c_2 => by exfalso; omega)
  refine lv_goto (tgt := 1949) hx hb dL_law_518 (by decide) ?_
  exact hcont _ _ _ _ ⟨ro, _, _, rfl, hJ, hro, hoo, hR, hO, hg⟩ hS (lv_sub hl [2, 3, 4, 5, 6] rfl)

set_option maxRecDepth 100000 in
set_option maxHeartbeats 1600000 in
theorem law_c6 {p : Program} {e : Env} {s : State} {m : MethodId} {below : List Frame} {meth : Method} {c : Code} (l : Launch) (hl0 : l.stackTraces = false) (Y : th_Y) {b L : Nat} {xs : Nat → Int32} (hL : L ≤ 2560) (C0 : lw_At p s m meth c b L xs) (hKN : th_K Y s) (hts : ∀ w ∈ th_G, w.before #[Value.ref b] s = true) (hT : th_T (fun q : Nat => s.heap.size ≤ q) s) (hnc : th_nc s) (g o oo : Nat) (S : th_S) (i : Nat) (hi : i + 5 ≤ L) {H : Heap} {locs : List Loc} {cells slots : Nat} (hcl : cells + 8 ≤ 601024) (hsl : slots + 400 ≤ 7293034) (hI : th_LI Y s.heap.size g o oo S H) (hS : va_S (fun q : Nat => s.heap.size ≤ q) s.heap H locs) {ls : Array Slot} (hl : lv_has ls 7 [(0, .ref b), (1, .ref g), (2, .ref o), (3, .ref oo), (4, .int (nI i))]) (hcont : th_LC p l e s m below meth c b Y g o oo i cells slots) : W p l e room_1 s m #[Value.ref b] below meth c H locs cells slots (lw_Z below #[Value.ref b] s) (F0 m 521 ls []) := by
  obtain ⟨hx, hb, hr, hml, hown, hts9, hX, hbl, hlk, hgv⟩ := id C0
  obtain ⟨hK, hN⟩ := hKN
  have hown : s.vm.findClass RL = some m.cls := hown
  have hbA : ¬ (fun q : Nat => s.heap.size ≤ q) b := Nat.not_le.mpr hbl
  obtain ⟨ro, thr, f9, rfl, hJ, hro, hoo, hR, hO, hg⟩ := hI
  obtain ⟨ad, Vx, B, dsx, kvx, ks, wy, wz, rfl, hAd, hGI⟩ := hg
  have hAA := th_LAA hS.1 hO.lt (th_RGlt hR) hAd
  have hno : ¬ th_gA ad S.1 H.size oo := fun h9 => (hAA _ h9).2.1 rfl
  have hl : lv_has ls 7 [(0, .ref b), (1, .ref (ad 0)), (2, .ref (ro 0)), (3, .ref oo), (4, .int (nI i))] := hl
  refine lv_aload_n hx hb dL_law_521 rfl (lv_at hl 1 rfl) ?_
  refine lv_aload_n hx hb dL_law_522 rfl (lv_at hl 0 rfl) ?_
  refine lv_iload hx hb dL_law_523 (lv_at hl 4 rfl) ?_
  refine lv_iconst (v := nI 1) hx hb dL_law_525 (by decide) ?_
  refine lv_iadd hx hb dL_law_526 ?_
  refine th_ti (nI_add _ _) ?_
  refine th_sld hx hb hX hbl hbA hS (j := i + 1) (by omega) hL dL_law_527 ?_
  refine lv_aload_n hx hb dL_law_528 rfl (lv_at hl 0 rfl) ?_
  refine lv_iload hx hb dL_law_529 (lv_at hl 4 rfl) ?_
  refine lv_iconst (v := nI 2) hx hb dL_law_531 (by decide) ?_
  refine lv_iadd hx hb dL_law_532 ?_
  refine th_ti (nI_add _ _) ?_
  refine th_sld hx hb hX hbl hbA hS (j := i + 2) (by omega) hL dL_law_533 ?_
  refine lv_aload_n hx hb dL_law_534 rfl (lv_at hl 3 rfl) ?_
  refine thw_callS hx hb hml hown hts ⟨hK, hN⟩ hl hS ⟨hT, rfl, hnc⟩ (rest := []) (c_L_root l hl0 Y _ ad S Vx B dsx kvx ks wy wz hGI oo f9 hO hno (xs (i + 1)) (xs (i + 2))) tw_2_98 tw_1_0 tw_2_97 (by decide +kernel) (k := 4) tw_2_96 dL_law_535 rfl rfl (Nat.le_of_ble_eq_true rfl) ⟨(Nat.le_of_ble_eq_true rfl), (Nat.le_of_ble_eq_true rfl)⟩ ⟨hcl, hsl⟩ (fun q9 h9 => h9.elim (fun h8 => (hAA q9 h8).1) (fun e9 => by rw [e9]; exact hoo)) (fun v9 H1 locs hp hsm hS => ?_)
  have hk3 := k3_root S (xs (i + 1)) (xs (i + 2))
  generalize hre : sp_root S (xs (i + 1)) (xs (i + 2)) = r at hp hk3
  obtain ⟨rfl, hg1, f1, hO1, hf1⟩ := hp
  obtain ⟨hR, hg⟩ := th_Lw hAA hro hR hg1 (fun q9 h9 => h9) hsm
  have hO := hO1
  refine lv_istore (lv' := [(5, .int (nI r.1)), (0, .ref b), (1, .ref (ad 0)), (2, .ref (ro 0)), (3, .ref oo), (4, .int (nI i))]) hx hb dL_law_538 hl (by decide) rfl (fun ls hl => ?_)
  refine lv_aload_n hx hb dL_law_540 rfl (lv_at hl 3 rfl) ?_
  refine lv_aload_n hx hb dL_law_541 rfl (lv_at hl 1 rfl) ?_
  refine lv_iload hx hb dL_law_542 (lv_at hl 5 rfl) ?_
  refine lv_iconst (v := nI 1) hx hb dL_law_544 (by decide) ?_
  refine lv_iadd hx hb dL_law_545 ?_
  refine th_ti (nI_add _ _) ?_
  refine th_sld hx hb hX hbl hbA hS (j := i + 1) (by omega) hL dL_law_546 ?_
  refine lv_aload_n hx hb dL_law_547 rfl (lv_at hl 1 rfl) ?_
  refine lv_iload hx hb dL_law_548 (lv_at hl 5 rfl) ?_
  refine lv_iconst (v := nI 2) hx hb dL_law_550 (by decide) ?_
  refine lv_iadd hx hb dL_law_551 ?_
  refine th_ti (nI_add _ _) ?_
  refine th_sld hx hb hX hbl hbA hS (j := i + 2) (by omega) hL dL_law_552 ?_
  obtain ⟨stp, efr, esz, etr, val, siz, tre, spa, pro, bes, isr, key, lev, kvi, ksz, krt, ala, fol, cts, hPr, hvr⟩ := id hR
  obtain ⟨fs9, hB9⟩ := th_RG0 hR
  refine th_callV hx hb hml hown hts ⟨hK, hN⟩ hl hS hB9 rfl (rest := []) (c_X6_root l Y _ ro hJ S _ stp efr esz etr val siz tre spa pro bes isr key lev kvi ksz krt ala fol cts hPr hvr (xs (i + 1)) (xs (i + 2))) ok_X6_root tw_4_25 dL_law_553 rfl rfl (Nat.le_of_ble_eq_true rfl) ⟨(Nat.le_of_ble_eq_true rfl), (Nat.le_of_ble_eq_true rfl)⟩ ⟨hcl, hsl⟩ (fun q9 h9 => by obtain ⟨j9, hj9, e9⟩ := th_inro h9; rw [← e9]; exact (hro j9 hj9).1) (th_ki (fun x9 H2 locs hp hsm2 hS => ?_))
  rw [hre] at hp
  obtain ⟨hx9, hR⟩ := hp
  obtain ⟨hO, hg⟩ := th_Lm hro hO hg hsm2
  refine lv_istore (lv' := [(6, .int x9), (5, .int (nI r.1)), (0, .ref b), (1, .ref (ad 0)), (2, .ref (ro 0)), (3, .ref oo), (4, .int (nI i))]) hx hb dL_law_556 hl (by decide) rfl (fun ls hl => ?_)
  refine lv_aload_n hx hb dL_law_558 rfl (lv_at hl 4 rfl) ?_
  obtain ⟨fs9, hB9⟩ := th_RG0 hR
  refine th_callV hx hb hml hown hts ⟨hK, hN⟩ hl hS hB9 rfl (rest := []) (th_Lthr l hR) ok_X6_thrown tw_3_222 dL_law_559 rfl rfl (Nat.le_of_ble_eq_true rfl) ⟨(Nat.le_of_ble_eq_true rfl), (Nat.le_of_ble_eq_true rfl)⟩ ⟨hcl, hsl⟩ (fun _ h9 => h9.elim) (th_kpi (fun locs hS => ?_))
  refine lv_iload hx hb dL_law_562 (lv_at hl 1 rfl) ?_
  refine lv_icmp_eq (tgt := 569) hx hb dL_law_564 (by decide) (fun c_1 => ?_) (fun c_1 => by exfalso; exact c_1 rfl)
  refine lv_iload hx hb dL_law_569 (lv_at hl 1 rfl) ?_
  refine lv_if_ne (tgt := 586) hx hb dL_law_571 (by decide) (fun hc9 => ?_) (fun hc9 => ?_)
  · skip
    refine lv_goto (tgt := 1949) hx hb dL_law_586 (by decide) ?_
    exact hcont _ _ _ _ ⟨ro, _, _, rfl, hJ, hro, hoo, hR, hO, hg⟩ hS (lv_sub hl [2, 3, 4, 5, 6] rfl)
  have hr0 : r.1 = 0 := (th_nI0 hk3).mp hc9
  have hx9 := hx9 hr0
  have hf1 := hf1 hr0
  refine lv_aload_n hx hb dL_law_574 rfl (lv_at hl 5 rfl) ?_
  refine lv_iconst (v := nI 0) hx hb dL_law_575 (by decide) ?_
  refine th_lal0 hx hb hK hO dL_law_576 ?_
  refine lv_iload hx hb dL_law_577 (lv_at hl 0 rfl) ?_
  refine lv_i2l hx hb dL_law_579 rfl ?_
  refine th_lcmp0 (hf1.trans (congrArg Int32.toInt64 hx9.symm)) hx hb dL_law_580 ?_
  refine th_zeq (tgt := 586) hx hb dL_law_581 (by decide) (by omega) (fun c_2 => ?_) (fun c_2 => by exfalso; omega)
  refine lv_goto (tgt := 1949) hx hb dL_law_586 (by decide) ?_
  exact hcont _ _ _ _ ⟨ro, _, _, rfl, hJ, hro, hoo, hR, hO, hg⟩ hS (lv_sub hl [2, 3, 4, 5, 6] rfl)

set_option maxRecDepth 100000 in
set_option maxHeartbeats 1600000 in
theorem law_c7 {p : Program} {e : Env} {s : State} {m : MethodId} {below : List Frame} {meth : Method} {c : Code} (l : Launch) (hl0 : l.stackTraces = false) (Y : th_Y) {b L : Nat} {xs : Nat → Int32} (hL : L ≤ 2560) (C0 : lw_At p s m meth c b L xs) (hKN : th_K Y s) (hts : ∀ w ∈ th_G, w.before #[Value.ref b] s = true) (hT : th_T (fun q : Nat => s.heap.size ≤ q) s) (hnc : th_nc s) (g o oo : Nat) (S : th_S) (i : Nat) (hi : i + 5 ≤ L) {H : Heap} {locs : List Loc} {cells slots : Nat} (hcl : cells + 8 ≤ 601024) (hsl : slots + 400 ≤ 7293034) (hI : th_LI Y s.heap.size g o oo S H) (hS : va_S (fun q : Nat => s.heap.size ≤ q) s.heap H locs) {ls : Array Slot} (hl : lv_has ls 7 [(0, .ref b), (1, .ref g), (2, .ref o), (3, .ref oo), (4, .int (nI i))]) (hcont : th_LC p l e s m below meth c b Y g o oo i cells slots) : W p l e room_1 s m #[Value.ref b] below meth c H locs cells slots (lw_Z below #[Value.ref b] s) (F0 m 589 ls []) := by
  obtain ⟨hx, hb, hr, hml, hown, hts9, hX, hbl, hlk, hgv⟩ := id C0
  obtain ⟨hK, hN⟩ := hKN
  have hown : s.vm.findClass RL = some m.cls := hown
  have hbA : ¬ (fun q : Nat => s.heap.size ≤ q) b := Nat.not_le.mpr hbl
  obtain ⟨ro, thr, f9, rfl, hJ, hro, hoo, hR, hO, hg⟩ := hI
  obtain ⟨ad, Vx, B, dsx, kvx, ks, wy, wz, rfl, hAd, hGI⟩ := hg
  have hAA := th_LAA hS.1 hO.lt (th_RGlt hR) hAd
  have hno : ¬ th_gA ad S.1 H.size oo := fun h9 => (hAA _ h9).2.1 rfl
  have hl : lv_has ls 7 [(0, .ref b), (1, .ref (ad 0)), (2, .ref (ro 0)), (3, .ref oo), (4, .int (nI i))] := hl
  refine lv_aload_n hx hb dL_law_589 rfl (lv_at hl 1 rfl) ?_
  refine lv_aload_n hx hb dL_law_590 rfl (lv_at hl 0 rfl) ?_
  refine lv_iload hx hb dL_law_591 (lv_at hl 4 rfl) ?_
  refine lv_iconst (v := nI 1) hx hb dL_law_593 (by decide) ?_
  refine lv_iadd hx hb dL_law_594 ?_
  refine th_ti (nI_add _ _) ?_
  refine th_sld hx hb hX hbl hbA hS (j := i + 1) (by omega) hL dL_law_595 ?_
  refine lv_aload_n hx hb dL_law_596 rfl (lv_at hl 0 rfl) ?_
  refine lv_iload hx hb dL_law_597 (lv_at hl 4 rfl) ?_
  refine lv_iconst (v := nI 2) hx hb dL_law_599 (by decide) ?_
  refine lv_iadd hx hb dL_law_600 ?_
  refine th_ti (nI_add _ _) ?_
  refine th_sld hx hb hX hbl hbA hS (j := i + 2) (by omega) hL dL_law_601 ?_
  refine lv_aload_n hx hb dL_law_602 rfl (lv_at hl 3 rfl) ?_
  refine thw_callS hx hb hml hown hts ⟨hK, hN⟩ hl hS ⟨hT, rfl, hnc⟩ (rest := []) (c_L_rootAnew l hl0 Y _ ad S Vx B dsx kvx ks wy wz hGI oo f9 hO hno (xs (i + 1)) (xs (i + 2))) tw_2_117 tw_1_0 tw_2_116 (by decide +kernel) (k := 4) tw_2_115 dL_law_603 rfl rfl (Nat.le_of_ble_eq_true rfl) ⟨(Nat.le_of_ble_eq_true rfl), (Nat.le_of_ble_eq_true rfl)⟩ ⟨hcl, hsl⟩ (fun q9 h9 => h9.elim (fun h8 => (hAA q9 h8).1) (fun e9 => by rw [e9]; exact hoo)) (fun v9 H1 locs hp hsm hS => ?_)
  have hk3 := k3_root S (xs (i + 1)) (xs (i + 2))
  generalize hre : sp_root S (xs (i + 1)) (xs (i + 2)) = r at hp hk3
  obtain ⟨rfl, hg1, f1, hO1, hf1⟩ := hp
  obtain ⟨hR, hg⟩ := th_Lw hAA hro hR hg1 (fun q9 h9 => h9) hsm
  have hO := hO1
  refine lv_istore (lv' := [(5, .int (nI r.1)), (0, .ref b), (1, .ref (ad 0)), (2, .ref (ro 0)), (3, .ref oo), (4, .int (nI i))]) hx hb dL_law_606 hl (by decide) rfl (fun ls hl => ?_)
  refine lv_aload_n hx hb dL_law_608 rfl (lv_at hl 3 rfl) ?_
  refine lv_aload_n hx hb dL_law_609 rfl (lv_at hl 1 rfl) ?_
  refine lv_iload hx hb dL_law_610 (lv_at hl 5 rfl) ?_
  refine lv_iconst (v := nI 1) hx hb dL_law_612 (by decide) ?_
  refine lv_iadd hx hb dL_law_613 ?_
  refine th_ti (nI_add _ _) ?_
  refine th_sld hx hb hX hbl hbA hS (j := i + 1) (by omega) hL dL_law_614 ?_
  refine lv_aload_n hx hb dL_law_615 rfl (lv_at hl 1 rfl) ?_
  refine lv_iload hx hb dL_law_616 (lv_at hl 5 rfl) ?_
  refine lv_iconst (v := nI 2) hx hb dL_law_618 (by decide) ?_
  refine lv_iadd hx hb dL_law_619 ?_
  refine th_ti (nI_add _ _) ?_
  refine th_sld hx hb hX hbl hbA hS (j := i + 2) (by omega) hL dL_law_620 ?_
  obtain ⟨stp, efr, esz, etr, val, siz, tre, spa, pro, bes, isr, key, lev, kvi, ksz, krt, ala, fol, cts, hPr, hvr⟩ := id hR
  obtain ⟨fs9, hB9⟩ := th_RG0 hR
  refine th_callV hx hb hml hown hts ⟨hK, hN⟩ hl hS hB9 rfl (rest := []) (c_X6_rootAnew l Y _ ro hJ S _ stp efr esz etr val siz tre spa pro bes isr key lev kvi ksz krt ala fol cts hPr hvr (xs (i + 1)) (xs (i + 2))) ok_X6_rootAnew tw_4_49 dL_law_621 rfl rfl (Nat.le_of_ble_eq_true rfl) ⟨(Nat.le_of_ble_eq_true rfl), (Nat.le_of_ble_eq_true rfl)⟩ ⟨hcl, hsl⟩ (fun q9 h9 => by obtain ⟨j9, hj9, e9⟩ := th_inro h9; rw [← e9]; exact (hro j9 hj9).1) (th_ki (fun x9 H2 locs hp hsm2 hS => ?_))
  rw [hre] at hp
  obtain ⟨hx9, hR⟩ := hp
  obtain ⟨hO, hg⟩ := th_Lm hro hO hg hsm2
  refine lv_istore (lv' := [(6, .int x9), (5, .int (nI r.1)), (0, .ref b), (1, .ref (ad 0)), (2, .ref (ro 0)), (3, .ref oo), (4, .int (nI i))]) hx hb dL_law_624 hl (by decide) rfl (fun ls hl => ?_)
  refine lv_aload_n hx hb dL_law_626 rfl (lv_at hl 4 rfl) ?_
  obtain ⟨fs9, hB9⟩ := th_RG0 hR
  refine th_callV hx hb hml hown hts ⟨hK, hN⟩ hl hS hB9 rfl (rest := []) (th_Lthr l hR) ok_X6_thrown tw_3_222 dL_law_627 rfl rfl (Nat.le_of_ble_eq_true rfl) ⟨(Nat.le_of_ble_eq_true rfl), (Nat.le_of_ble_eq_true rfl)⟩ ⟨hcl, hsl⟩ (fun _ h9 => h9.elim) (th_kpi (fun locs hS => ?_))
  refine lv_iload hx hb dL_law_630 (lv_at hl 1 rfl) ?_
  refine lv_icmp_eq (tgt := 637) hx hb dL_law_632 (by decide) (fun c_1 => ?_) (fun c_1 => by exfalso; exact c_1 rfl)
  refine lv_iload hx hb dL_law_637 (lv_at hl 1 rfl) ?_
  refine lv_if_ne (tgt := 654) hx hb dL_law_639 (by decide) (fun hc9 => ?_) (fun hc9 => ?_)
  · skip
    refine lv_goto (tgt := 1949) hx hb dL_law_654 (by decide) ?_
    exact hcont _ _ _ _ ⟨ro, _, _, rfl, hJ, hro, hoo, hR, hO, hg⟩ hS (lv_sub hl [2, 3, 4, 5, 6] rfl)
  have hr0 : r.1 = 0 := (th_nI0 hk3).mp hc9
  have hx9 := hx9 hr0
  have hf1 := hf1 hr0
  refine lv_aload_n hx hb dL_law_642 rfl (lv_at hl 5 rfl) ?_
  refine lv_iconst (v := nI 0) hx hb dL_law_643 (by decide) ?_
  refine th_lal0 hx hb hK hO dL_law_644 ?_
  refine lv_iload hx hb dL_law_645 (lv_at hl 0 rfl) ?_
  refine lv_i2l hx hb dL_law_647 rfl ?_
  refine th_lcmp0 (hf1.trans (congrArg Int32.toInt64 hx9.symm)) hx hb dL_law_648 ?_
  refine th_zeq (tgt := 654) hx hb dL_law_649 (by decide) (by omega) (fun c_2 => ?_) (fun c_2 => by exfalso; omega)
  refine lv_goto (tgt := 1949) hx hb dL_law_654 (by decide) ?_
  exact hcont _ _ _ _ ⟨ro, _, _, rfl, hJ, hro, hoo, hR, hO, hg⟩ hS (lv_sub hl [2, 3, 4, 5, 6] rfl)

set_option maxRecDepth 100000 in
set_option maxHeartbeats 1600000 in
theorem law_c8 {p : Program} {e : Env} {s : State} {m : MethodId} {below : List Frame} {meth : Method} {c : Code} (l : Launch) (hl0 : l.stackTraces = false) (Y : th_Y) {b L : Nat} {xs : Nat → Int32} (hL : L ≤ 2560) (C0 : lw_At p s m meth c b L xs) (hKN : th_K Y s) (hts : ∀ w ∈ th_G, w.before #[Value.ref b] s = true) (hT : th_T (fun q : Nat => s.heap.size ≤ q) s) (hnc : th_nc s) (g o oo : Nat) (S : th_S) (i : Nat) (hi : i + 5 ≤ L) {H : Heap} {locs : List Loc} {cells slots : Nat} (hcl : cells + 8 ≤ 601024) (hsl : slots + 400 ≤ 7293034) (hI : th_LI Y s.heap.size g o oo S H) (hS : va_S (fun q : Nat => s.heap.size ≤ q) s.heap H locs) {ls : Array Slot} (hl : lv_has ls 7 [(0, .ref b), (1, .ref g), (2, .ref o), (3, .ref oo), (4, .int (nI i))]) (hcont : th_LC p l e s m below meth c b Y g o oo i cells slots) : W p l e room_1 s m #[Value.ref b] below meth c H locs cells slots (lw_Z below #[Value.ref b] s) (F0 m 657 ls []) := by
  obtain ⟨hx, hb, hr, hml, hown, hts9, hX, hbl, hlk, hgv⟩ := id C0
  obtain ⟨hK, hN⟩ := hKN
  have hown : s.vm.findClass RL = some m.cls := hown
  have hbA : ¬ (fun q : Nat => s.heap.size ≤ q) b := Nat.not_le.mpr hbl
  obtain ⟨ro, thr, f9, rfl, hJ, hro, hoo, hR, hO, hg⟩ := hI
  obtain ⟨ad, Vx, B, dsx, kvx, ks, wy, wz, rfl, hAd, hGI⟩ := hg
  have hAA := th_LAA hS.1 hO.lt (th_RGlt hR) hAd
  have hno : ¬ th_gA ad S.1 H.size oo := fun h9 => (hAA _ h9).2.1 rfl
  have hl : lv_has ls 7 [(0, .ref b), (1, .ref (ad 0)), (2, .ref (ro 0)), (3, .ref oo), (4, .int (nI i))] := hl
  refine lv_aload_n hx hb dL_law_657 rfl (lv_at hl 1 rfl) ?_
  refine lv_aload_n hx hb dL_law_658 rfl (lv_at hl 0 rfl) ?_
  refine lv_iload hx hb dL_law_659 (lv_at hl 4 rfl) ?_
  refine lv_iconst (v := nI 1) hx hb dL_law_661 (by decide) ?_
  refine lv_iadd hx hb dL_law_662 ?_
  refine th_ti (nI_add _ _) ?_
  refine th_sld hx hb hX hbl hbA hS (j := i + 1) (by omega) hL dL_law_663 ?_
  refine lv_aload_n hx hb dL_law_664 rfl (lv_at hl 0 rfl) ?_
  refine lv_iload hx hb dL_law_665 (lv_at hl 4 rfl) ?_
  refine lv_iconst (v := nI 2) hx hb dL_law_667 (by decide) ?_
  refine lv_iadd hx hb dL_law_668 ?_
  refine th_ti (nI_add _ _) ?_
  refine th_sld hx hb hX hbl hbA hS (j := i + 2) (by omega) hL dL_law_669 ?_
  refine lv_aload_n hx hb dL_law_670 rfl (lv_at hl 0 rfl) ?_
  refine lv_iload hx hb dL_law_671 (lv_at hl 4 rfl) ?_
  refine lv_iconst (v := nI 3) hx hb dL_law_673 (by decide) ?_
  refine lv_iadd hx hb dL_law_674 ?_
  refine th_ti (nI_add _ _) ?_
  refine th_sld hx hb hX hbl hbA hS (j := i + 3) (by omega) hL dL_law_675 ?_
  refine lv_aload_n hx hb dL_law_676 rfl (lv_at hl 3 rfl) ?_
  refine thw_callS hx hb hml hown hts ⟨hK, hN⟩ hl hS ⟨hT, rfl, hnc⟩ (rest := []) (c_L_loadLeaf l hl0 Y _ ad S Vx B dsx kvx ks wy wz hGI oo f9 hO hno (xs (i + 1)) (xs (i + 2)) (xs (i + 3))) tw_2_134 tw_1_0 tw_2_133 (by decide +kernel) (k := 5) tw_2_132 dL_law_677 rfl rfl (Nat.le_of_ble_eq_true rfl) ⟨(Nat.le_of_ble_eq_true rfl), (Nat.le_of_ble_eq_true rfl)⟩ ⟨hcl, hsl⟩ (fun q9 h9 => h9.elim (fun h8 => (hAA q9 h8).1) (fun e9 => by rw [e9]; exact hoo)) (fun v9 H1 locs hp hsm hS => ?_)
  have hk3 := k3_loadLeaf S (xs (i + 1)) (xs (i + 2)) (xs (i + 3))
  generalize hre : sp_loadLeaf S (xs (i + 1)) (xs (i + 2)) (xs (i + 3)) = r at hp hk3
  obtain ⟨rfl, hg1, f1, hO1, hf1⟩ := hp
  obtain ⟨hR, hg⟩ := th_Lw hAA hro hR hg1 (fun q9 h9 => h9) hsm
  have hO := hO1
  refine lv_istore (lv' := [(5, .int (nI r.1)), (0, .ref b), (1, .ref (ad 0)), (2, .ref (ro 0)), (3, .ref oo), (4, .int (nI i))]) hx hb dL_law_680 hl (by decide) rfl (fun ls hl => ?_)
  refine lv_aload_n hx hb dL_law_682 rfl (lv_at hl 3 rfl) ?_
  refine lv_aload_n hx hb dL_law_683 rfl (lv_at hl 1 rfl) ?_
  refine lv_iload hx hb dL_law_684 (lv_at hl 5 rfl) ?_
  refine lv_iconst (v := nI 1) hx hb dL_law_686 (by decide) ?_
  refine lv_iadd hx hb dL_law_687 ?_
  refine th_ti (nI_add _ _) ?_
  refine th_sld hx hb hX hbl hbA hS (j := i + 1) (by omega) hL dL_law_688 ?_
  refine lv_aload_n hx hb dL_law_689 rfl (lv_at hl 1 rfl) ?_
  refine lv_iload hx hb dL_law_690 (lv_at hl 5 rfl) ?_
  refine lv_iconst (v := nI 2) hx hb dL_law_692 (by decide) ?_
  refine lv_iadd hx hb dL_law_693 ?_
  refine th_ti (nI_add _ _) ?_
  refine th_sld hx hb hX hbl hbA hS (j := i + 2) (by omega) hL dL_law_694 ?_
  refine lv_aload_n hx hb dL_law_695 rfl (lv_at hl 1 rfl) ?_
  refine lv_iload hx hb dL_law_696 (lv_at hl 5 rfl) ?_
  refine lv_iconst (v := nI 3) hx hb dL_law_698 (by decide) ?_
  refine lv_iadd hx hb dL_law_699 ?_
  refine th_ti (nI_add _ _) ?_
  refine th_sld hx hb hX hbl hbA hS (j := i + 3) (by omega) hL dL_law_700 ?_
  obtain ⟨stp, efr, esz, etr, val, siz, tre, spa, pro, bes, isr, key, lev, kvi, ksz, krt, ala, fol, cts, hPr, hvr⟩ := id hR
  obtain ⟨fs9, hB9⟩ := th_RG0 hR
  refine th_callV hx hb hml hown hts ⟨hK, hN⟩ hl hS hB9 rfl (rest := []) (c_X6_loadLeaf l Y _ ro hJ S _ stp efr esz etr val siz tre spa pro bes isr key lev kvi ksz krt ala fol cts hPr hvr (xs (i + 1)) (xs (i + 2)) (xs (i + 3))) ok_X6_loadLeaf tw_4_50 dL_law_701 rfl rfl (Nat.le_of_ble_eq_true rfl) ⟨(Nat.le_of_ble_eq_true rfl), (Nat.le_of_ble_eq_true rfl)⟩ ⟨hcl, hsl⟩ (fun q9 h9 => by obtain ⟨j9, hj9, e9⟩ := th_inro h9; rw [← e9]; exact (hro j9 hj9).1) (th_ki (fun x9 H2 locs hp hsm2 hS => ?_))
  rw [hre] at hp
  obtain ⟨hx9, hR⟩ := hp
  obtain ⟨hO, hg⟩ := th_Lm hro hO hg hsm2
  refine lv_istore (lv' := [(6, .int x9), (5, .int (nI r.1)), (0, .ref b), (1, .ref (ad 0)), (2, .ref (ro 0)), (3, .ref oo), (4, .int (nI i))]) hx hb dL_law_704 hl (by decide) rfl (fun ls hl => ?_)
  refine lv_aload_n hx hb dL_law_706 rfl (lv_at hl 4 rfl) ?_
  obtain ⟨fs9, hB9⟩ := th_RG0 hR
  refine th_callV hx hb hml hown hts ⟨hK, hN⟩ hl hS hB9 rfl (rest := []) (th_Lthr l hR) ok_X6_thrown tw_3_222 dL_law_707 rfl rfl (Nat.le_of_ble_eq_true rfl) ⟨(Nat.le_of_ble_eq_true rfl), (Nat.le_of_ble_eq_true rfl)⟩ ⟨hcl, hsl⟩ (fun _ h9 => h9.elim) (th_kpi (fun locs hS => ?_))
  refine lv_iload hx hb dL_law_710 (lv_at hl 1 rfl) ?_
  refine lv_icmp_eq (tgt := 717) hx hb dL_law_712 (by decide) (fun c_1 => ?_) (fun c_1 => by exfalso; exact c_1 rfl)
  refine lv_iload hx hb dL_law_717 (lv_at hl 1 rfl) ?_
  refine lv_if_ne (tgt := 734) hx hb dL_law_719 (by decide) (fun hc9 => ?_) (fun hc9 => ?_)
  · skip
    refine lv_goto (tgt := 1949) hx hb dL_law_734 (by decide) ?_
    exact hcont _ _ _ _ ⟨ro, _, _, rfl, hJ, hro, hoo, hR, hO, hg⟩ hS (lv_sub hl [2, 3, 4, 5, 6] rfl)
  have hr0 : r.1 = 0 := (th_nI0 hk3).mp hc9
  have hx9 := hx9 hr0
  have hf1 := hf1 hr0
  refine lv_aload_n hx hb dL_law_722 rfl (lv_at hl 5 rfl) ?_
  refine lv_iconst (v := nI 0) hx hb dL_law_723 (by decide) ?_
  refine th_lal0 hx hb hK hO dL_law_724 ?_
  refine lv_iload hx hb dL_law_725 (lv_at hl 0 rfl) ?_
  refine lv_i2l hx hb dL_law_727 rfl ?_
  refine th_lcmp0 (hf1.trans (congrArg Int32.toInt64 hx9.symm)) hx hb dL_law_728 ?_
  refine th_zeq (tgt := 734) hx hb dL_law_729 (by decide) (by omega) (fun c_2 => ?_) (fun c_2 => by exfalso; omega)
  refine lv_goto (tgt := 1949) hx hb dL_law_734 (by decide) ?_
  exact hcont _ _ _ _ ⟨ro, _, _, rfl, hJ, hro, hoo, hR, hO, hg⟩ hS (lv_sub hl [2, 3, 4, 5, 6] rfl)

set_option maxRecDepth 100000 in
set_option maxHeartbeats 1600000 in
theorem law_c9 {p : Program} {e : Env} {s : State} {m : MethodId} {below : List Frame} {meth : Method} {c : Code} (l : Launch) (hl0 : l.stackTraces = false) (Y : th_Y) {b L : Nat} {xs : Nat → Int32} (hL : L ≤ 2560) (C0 : lw_At p s m meth c b L xs) (hKN : th_K Y s) (hts : ∀ w ∈ th_G, w.before #[Value.ref b] s = true) (hT : th_T (fun q : Nat => s.heap.size ≤ q) s) (hnc : th_nc s) (g o oo : Nat) (S : th_S) (i : Nat) (hi : i + 5 ≤ L) {H : Heap} {locs : List Loc} {cells slots : Nat} (hcl : cells + 8 ≤ 601024) (hsl : slots + 400 ≤ 7293034) (hI : th_LI Y s.heap.size g o oo S H) (hS : va_S (fun q : Nat => s.heap.size ≤ q) s.heap H locs) {ls : Array Slot} (hl : lv_has ls 7 [(0, .ref b), (1, .ref g), (2, .ref o), (3, .ref oo), (4, .int (nI i))]) (hcont : th_LC p l e s m below meth c b Y g o oo i cells slots) : W p l e room_1 s m #[Value.ref b] below meth c H locs cells slots (lw_Z below #[Value.ref b] s) (F0 m 737 ls []) := by
  obtain ⟨hx, hb, hr, hml, hown, hts9, hX, hbl, hlk, hgv⟩ := id C0
  obtain ⟨hK, hN⟩ := hKN
  have hown : s.vm.findClass RL = some m.cls := hown
  have hbA : ¬ (fun q : Nat => s.heap.size ≤ q) b := Nat.not_le.mpr hbl
  obtain ⟨ro, thr, f9, rfl, hJ, hro, hoo, hR, hO, hg⟩ := hI
  obtain ⟨ad, Vx, B, dsx, kvx, ks, wy, wz, rfl, hAd, hGI⟩ := hg
  have hAA := th_LAA hS.1 hO.lt (th_RGlt hR) hAd
  have hno : ¬ th_gA ad S.1 H.size oo := fun h9 => (hAA _ h9).2.1 rfl
  have hl : lv_has ls 7 [(0, .ref b), (1, .ref (ad 0)), (2, .ref (ro 0)), (3, .ref oo), (4, .int (nI i))] := hl
  refine lv_aload_n hx hb dL_law_737 rfl (lv_at hl 1 rfl) ?_
  refine lv_aload_n hx hb dL_law_738 rfl (lv_at hl 0 rfl) ?_
  refine lv_iload hx hb dL_law_739 (lv_at hl 4 rfl) ?_
  refine lv_iconst (v := nI 1) hx hb dL_law_741 (by decide) ?_
  refine lv_iadd hx hb dL_law_742 ?_
  refine th_ti (nI_add _ _) ?_
  refine th_sld hx hb hX hbl hbA hS (j := i + 1) (by omega) hL dL_law_743 ?_
  refine lv_aload_n hx hb dL_law_744 rfl (lv_at hl 0 rfl) ?_
  refine lv_iload hx hb dL_law_745 (lv_at hl 4 rfl) ?_
  refine lv_iconst (v := nI 2) hx hb dL_law_747 (by decide) ?_
  refine lv_iadd hx hb dL_law_748 ?_
  refine th_ti (nI_add _ _) ?_
  refine th_sld hx hb hX hbl hbA hS (j := i + 2) (by omega) hL dL_law_749 ?_
  refine lv_aload_n hx hb dL_law_750 rfl (lv_at hl 0 rfl) ?_
  refine lv_iload hx hb dL_law_751 (lv_at hl 4 rfl) ?_
  refine lv_iconst (v := nI 3) hx hb dL_law_753 (by decide) ?_
  refine lv_iadd hx hb dL_law_754 ?_
  refine th_ti (nI_add _ _) ?_
  refine th_sld hx hb hX hbl hbA hS (j := i + 3) (by omega) hL dL_law_755 ?_
  refine lv_aload_n hx hb dL_law_756 rfl (lv_at hl 3 rfl) ?_
  refine thw_callS hx hb hml hown hts ⟨hK, hN⟩ hl hS ⟨hT, rfl, hnc⟩ (rest := []) (c_L_loadGrowth l hl0 Y _ ad S Vx B dsx kvx ks wy wz hGI oo f9 hO hno (xs (i + 1)) (xs (i + 2)) (xs (i + 3))) tw_2_171 tw_1_0 tw_2_170 (by decide +kernel) (k := 5) tw_2_169 dL_law_757 rfl rfl (Nat.le_of_ble_eq_true rfl) ⟨(Nat.le_of_ble_eq_true rfl), (Nat.le_of_ble_eq_true rfl)⟩ ⟨hcl, hsl⟩ (fun q9 h9 => h9.elim (fun h8 => (hAA q9 h8).1) (fun e9 => by rw [e9]; exact hoo)) (fun v9 H1 locs hp hsm hS => ?_)
  have hk3 := k3_loadGrowth S (xs (i + 1)) (xs (i + 2)) (xs (i + 3))
  generalize hre : sp_loadGrowth S (xs (i + 1)) (xs (i + 2)) (xs (i + 3)) = r at hp hk3
  obtain ⟨rfl, hg1, f1, hO1, hf1⟩ := hp
  obtain ⟨hR, hg⟩ := th_Lw hAA hro hR hg1 (fun q9 h9 => h9) hsm
  have hO := hO1
  refine lv_istore (lv' := [(5, .int (nI r.1)), (0, .ref b), (1, .ref (ad 0)), (2, .ref (ro 0)), (3, .ref oo), (4, .int (nI i))]) hx hb dL_law_760 hl (by decide) rfl (fun ls hl => ?_)
  refine lv_aload_n hx hb dL_law_762 rfl (lv_at hl 3 rfl) ?_
  refine lv_aload_n hx hb dL_law_763 rfl (lv_at hl 1 rfl) ?_
  refine lv_iload hx hb dL_law_764 (lv_at hl 5 rfl) ?_
  refine lv_iconst (v := nI 1) hx hb dL_law_766 (by decide) ?_
  refine lv_iadd hx hb dL_law_767 ?_
  refine th_ti (nI_add _ _) ?_
  refine th_sld hx hb hX hbl hbA hS (j := i + 1) (by omega) hL dL_law_768 ?_
  refine lv_aload_n hx hb dL_law_769 rfl (lv_at hl 1 rfl) ?_
  refine lv_iload hx hb dL_law_770 (lv_at hl 5 rfl) ?_
  refine lv_iconst (v := nI 2) hx hb dL_law_772 (by decide) ?_
  refine lv_iadd hx hb dL_law_773 ?_
  refine th_ti (nI_add _ _) ?_
  refine th_sld hx hb hX hbl hbA hS (j := i + 2) (by omega) hL dL_law_774 ?_
  refine lv_aload_n hx hb dL_law_775 rfl (lv_at hl 1 rfl) ?_
  refine lv_iload hx hb dL_law_776 (lv_at hl 5 rfl) ?_
  refine lv_iconst (v := nI 3) hx hb dL_law_778 (by decide) ?_
  refine lv_iadd hx hb dL_law_779 ?_
  refine th_ti (nI_add _ _) ?_
  refine th_sld hx hb hX hbl hbA hS (j := i + 3) (by omega) hL dL_law_780 ?_
  obtain ⟨stp, efr, esz, etr, val, siz, tre, spa, pro, bes, isr, key, lev, kvi, ksz, krt, ala, fol, cts, hPr, hvr⟩ := id hR
  obtain ⟨fs9, hB9⟩ := th_RG0 hR
  refine th_callV hx hb hml hown hts ⟨hK, hN⟩ hl hS hB9 rfl (rest := []) (c_X6_loadGrowth l Y _ ro hJ S _ stp efr esz etr val siz tre spa pro bes isr key lev kvi ksz krt ala fol cts hPr hvr (xs (i + 1)) (xs (i + 2)) (xs (i + 3))) ok_X6_loadGrowth tw_4_73 dL_law_781 rfl rfl (Nat.le_of_ble_eq_true rfl) ⟨(Nat.le_of_ble_eq_true rfl), (Nat.le_of_ble_eq_true rfl)⟩ ⟨hcl, hsl⟩ (fun q9 h9 => by obtain ⟨j9, hj9, e9⟩ := th_inro h9; rw [← e9]; exact (hro j9 hj9).1) (th_ki (fun x9 H2 locs hp hsm2 hS => ?_))
  rw [hre] at hp
  obtain ⟨hx9, hR⟩ := hp
  obtain ⟨hO, hg⟩ := th_Lm hro hO hg hsm2
  refine lv_istore (lv' := [(6, .int x9), (5, .int (nI r.1)), (0, .ref b), (1, .ref (ad 0)), (2, .ref (ro 0)), (3, .ref oo), (4, .int (nI i))]) hx hb dL_law_784 hl (by decide) rfl (fun ls hl => ?_)
  refine lv_aload_n hx hb dL_law_786 rfl (lv_at hl 4 rfl) ?_
  obtain ⟨fs9, hB9⟩ := th_RG0 hR
  refine th_callV hx hb hml hown hts ⟨hK, hN⟩ hl hS hB9 rfl (rest := []) (th_Lthr l hR) ok_X6_thrown tw_3_222 dL_law_787 rfl rfl (Nat.le_of_ble_eq_true rfl) ⟨(Nat.le_of_ble_eq_true rfl), (Nat.le_of_ble_eq_true rfl)⟩ ⟨hcl, hsl⟩ (fun _ h9 => h9.elim) (th_kpi (fun locs hS => ?_))
  refine lv_iload hx hb dL_law_790 (lv_at hl 1 rfl) ?_
  refine lv_icmp_eq (tgt := 797) hx hb dL_law_792 (by decide) (fun c_1 => ?_) (fun c_1 => by exfalso; exact c_1 rfl)
  refine lv_iload hx hb dL_law_797 (lv_at hl 1 rfl) ?_
  refine lv_if_ne (tgt := 814) hx hb dL_law_799 (by decide) (fun hc9 => ?_) (fun hc9 => ?_)
  · skip
    refine lv_goto (tgt := 1949) hx hb dL_law_814 (by decide) ?_
    exact hcont _ _ _ _ ⟨ro, _, _, rfl, hJ, hro, hoo, hR, hO, hg⟩ hS (lv_sub hl [2, 3, 4, 5, 6] rfl)
  have hr0 : r.1 = 0 := (th_nI0 hk3).mp hc9
  have hx9 := hx9 hr0
  have hf1 := hf1 hr0
  refine lv_aload_n hx hb dL_law_802 rfl (lv_at hl 5 rfl) ?_
  refine lv_iconst (v := nI 0) hx hb dL_law_803 (by decide) ?_
  refine th_lal0 hx hb hK hO dL_law_804 ?_
  refine lv_iload hx hb dL_law_805 (lv_at hl 0 rfl) ?_
  refine lv_i2l hx hb dL_law_807 rfl ?_
  refine th_lcmp0 (hf1.trans (congrArg Int32.toInt64 hx9.symm)) hx hb dL_law_808 ?_
  refine th_zeq (tgt := 814) hx hb dL_law_809 (by decide) (by omega) (fun c_2 => ?_) (fun c_2 => by exfalso; omega)
  refine lv_goto (tgt := 1949) hx hb dL_law_814 (by decide) ?_
  exact hcont _ _ _ _ ⟨ro, _, _, rfl, hJ, hro, hoo, hR, hO, hg⟩ hS (lv_sub hl [2, 3, 4, 5, 6] rfl)

set_option maxRecDepth 100000 in
set_option maxHeartbeats 1600000 in
theorem law_c10 {p : Program} {e : Env} {s : State} {m : MethodId} {below : List Frame} {meth : Method} {c : Code} (l : Launch) (hl0 : l.stackTraces = false) (Y : th_Y) {b L : Nat} {xs : Nat → Int32} (hL : L ≤ 2560) (C0 : lw_At p s m meth c b L xs) (hKN : th_K Y s) (hts : ∀ w ∈ th_G, w.before #[Value.ref b] s = true) (hT : th_T (fun q : Nat => s.heap.size ≤ q) s) (hnc : th_nc s) (g o oo : Nat) (S : th_S) (i : Nat) (hi : i + 5 ≤ L) {H : Heap} {locs : List Loc} {cells slots : Nat} (hcl : cells + 8 ≤ 601024) (hsl : slots + 400 ≤ 7293034) (hI : th_LI Y s.heap.size g o oo S H) (hS : va_S (fun q : Nat => s.heap.size ≤ q) s.heap H locs) {ls : Array Slot} (hl : lv_has ls 7 [(0, .ref b), (1, .ref g), (2, .ref o), (3, .ref oo), (4, .int (nI i))]) (hcont : th_LC p l e s m below meth c b Y g o oo i cells slots) : W p l e room_1 s m #[Value.ref b] below meth c H locs cells slots (lw_Z below #[Value.ref b] s) (F0 m 817 ls []) := by
  obtain ⟨hx, hb, hr, hml, hown, hts9, hX, hbl, hlk, hgv⟩ := id C0
  obtain ⟨hK, hN⟩ := hKN
  have hown : s.vm.findClass RL = some m.cls := hown
  have hbA : ¬ (fun q : Nat => s.heap.size ≤ q) b := Nat.not_le.mpr hbl
  obtain ⟨ro, thr, f9, rfl, hJ, hro, hoo, hR, hO, hg⟩ := hI
  obtain ⟨ad, Vx, B, dsx, kvx, ks, wy, wz, rfl, hAd, hGI⟩ := hg
  have hAA := th_LAA hS.1 hO.lt (th_RGlt hR) hAd
  have hno : ¬ th_gA ad S.1 H.size oo := fun h9 => (hAA _ h9).2.1 rfl
  have hl : lv_has ls 7 [(0, .ref b), (1, .ref (ad 0)), (2, .ref (ro 0)), (3, .ref oo), (4, .int (nI i))] := hl
  refine lv_aload_n hx hb dL_law_817 rfl (lv_at hl 1 rfl) ?_
  refine lv_aload_n hx hb dL_law_818 rfl (lv_at hl 0 rfl) ?_
  refine lv_iload hx hb dL_law_819 (lv_at hl 4 rfl) ?_
  refine lv_iconst (v := nI 1) hx hb dL_law_821 (by decide) ?_
  refine lv_iadd hx hb dL_law_822 ?_
  refine th_ti (nI_add _ _) ?_
  refine th_sld hx hb hX hbl hbA hS (j := i + 1) (by omega) hL dL_law_823 ?_
  refine lv_aload_n hx hb dL_law_824 rfl (lv_at hl 3 rfl) ?_
  refine thw_callS hx hb hml hown hts ⟨hK, hN⟩ hl hS ⟨hT, rfl, hnc⟩ (rest := []) (c_L_loadKey l hl0 Y _ ad S Vx B dsx kvx ks wy wz hGI oo f9 hO hno (xs (i + 1))) tw_2_190 tw_1_0 tw_2_189 (by decide +kernel) (k := 3) tw_2_188 dL_law_825 rfl rfl (Nat.le_of_ble_eq_true rfl) ⟨(Nat.le_of_ble_eq_true rfl), (Nat.le_of_ble_eq_true rfl)⟩ ⟨hcl, hsl⟩ (fun q9 h9 => h9.elim (fun h8 => (hAA q9 h8).1) (fun e9 => by rw [e9]; exact hoo)) (fun v9 H1 locs hp hsm hS => ?_)
  have hk3 := k3_loadKey S (xs (i + 1))
  generalize hre : sp_loadKey S (xs (i + 1)) = r at hp hk3
  obtain ⟨rfl, hg1, f1, hO1, hf1⟩ := hp
  obtain ⟨hR, hg⟩ := th_Lw hAA hro hR hg1 (fun q9 h9 => h9) hsm
  have hO := hO1
  refine lv_istore (lv' := [(5, .int (nI r.1)), (0, .ref b), (1, .ref (ad 0)), (2, .ref (ro 0)), (3, .ref oo), (4, .int (nI i))]) hx hb dL_law_828 hl (by decide) rfl (fun ls hl => ?_)
  refine lv_aload_n hx hb dL_law_830 rfl (lv_at hl 3 rfl) ?_
  refine lv_aload_n hx hb dL_law_831 rfl (lv_at hl 1 rfl) ?_
  refine lv_iload hx hb dL_law_832 (lv_at hl 5 rfl) ?_
  refine lv_iconst (v := nI 1) hx hb dL_law_834 (by decide) ?_
  refine lv_iadd hx hb dL_law_835 ?_
  refine th_ti (nI_add _ _) ?_
  refine th_sld hx hb hX hbl hbA hS (j := i + 1) (by omega) hL dL_law_836 ?_
  obtain ⟨stp, efr, esz, etr, val, siz, tre, spa, pro, bes, isr, key, lev, kvi, ksz, krt, ala, fol, cts, hPr, hvr⟩ := id hR
  obtain ⟨fs9, hB9⟩ := th_RG0 hR
  refine th_callV hx hb hml hown hts ⟨hK, hN⟩ hl hS hB9 rfl (rest := []) (c_X6_loadKey l Y _ ro hJ S _ stp efr esz etr val siz tre spa pro bes isr key lev kvi ksz krt ala fol cts hPr hvr (xs (i + 1))) ok_X6_loadKey tw_4_81 dL_law_837 rfl rfl (Nat.le_of_ble_eq_true rfl) ⟨(Nat.le_of_ble_eq_true rfl), (Nat.le_of_ble_eq_true rfl)⟩ ⟨hcl, hsl⟩ (fun q9 h9 => by obtain ⟨j9, hj9, e9⟩ := th_inro h9; rw [← e9]; exact (hro j9 hj9).1) (th_ki (fun x9 H2 locs hp hsm2 hS => ?_))
  rw [hre] at hp
  obtain ⟨hx9, hR⟩ := hp
  obtain ⟨hO, hg⟩ := th_Lm hro hO hg hsm2
  refine lv_istore (lv' := [(6, .int x9), (5, .int (nI r.1)), (0, .ref b), (1, .ref (ad 0)), (2, .ref (ro 0)), (3, .ref oo), (4, .int (nI i))]) hx hb dL_law_840 hl (by decide) rfl (fun ls hl => ?_)
  refine lv_aload_n hx hb dL_law_842 rfl (lv_at hl 4 rfl) ?_
  obtain ⟨fs9, hB9⟩ := th_RG0 hR
  refine th_callV hx hb hml hown hts ⟨hK, hN⟩ hl hS hB9 rfl (rest := []) (th_Lthr l hR) ok_X6_thrown tw_3_222 dL_law_843 rfl rfl (Nat.le_of_ble_eq_true rfl) ⟨(Nat.le_of_ble_eq_true rfl), (Nat.le_of_ble_eq_true rfl)⟩ ⟨hcl, hsl⟩ (fun _ h9 => h9.elim) (th_kpi (fun locs hS => ?_))
  refine lv_iload hx hb dL_law_846 (lv_at hl 1 rfl) ?_
  refine lv_icmp_eq (tgt := 853) hx hb dL_law_848 (by decide) (fun c_1 => ?_) (fun c_1 => by exfalso; exact c_1 rfl)
  refine lv_iload hx hb dL_law_853 (lv_at hl 1 rfl) ?_
  refine lv_if_ne (tgt := 870) hx hb dL_law_855 (by decide) (fun hc9 => ?_) (fun hc9 => ?_)
  · skip
    refine lv_goto (tgt := 1949) hx hb dL_law_870 (by decide) ?_
    exact hcont _ _ _ _ ⟨ro, _, _, rfl, hJ, hro, hoo, hR, hO, hg⟩ hS (lv_sub hl [2, 3, 4, 5, 6] rfl)
  have hr0 : r.1 = 0 := (th_nI0 hk3).mp hc9
  have hx9 := hx9 hr0
  have hf1 := hf1 hr0
  refine lv_aload_n hx hb dL_law_858 rfl (lv_at hl 5 rfl) ?_
  refine lv_iconst (v := nI 0) hx hb dL_law_859 (by decide) ?_
  refine th_lal0 hx hb hK hO dL_law_860 ?_
  refine lv_iload hx hb dL_law_861 (lv_at hl 0 rfl) ?_
  refine lv_i2l hx hb dL_law_863 rfl ?_
  refine th_lcmp0 (hf1.trans (congrArg Int32.toInt64 hx9.symm)) hx hb dL_law_864 ?_
  refine th_zeq (tgt := 870) hx hb dL_law_865 (by decide) (by omega) (fun c_2 => ?_) (fun c_2 => by exfalso; omega)
  refine lv_goto (tgt := 1949) hx hb dL_law_870 (by decide) ?_
  exact hcont _ _ _ _ ⟨ro, _, _, rfl, hJ, hro, hoo, hR, hO, hg⟩ hS (lv_sub hl [2, 3, 4, 5, 6] rfl)

set_option maxRecDepth 100000 in
set_option maxHeartbeats 1600000 in
theorem law_c11 {p : Program} {e : Env} {s : State} {m : MethodId} {below : List Frame} {meth : Method} {c : Code} (l : Launch) (hl0 : l.stackTraces = false) (Y : th_Y) {b L : Nat} {xs : Nat → Int32} (hL : L ≤ 2560) (C0 : lw_At p s m meth c b L xs) (hKN : th_K Y s) (hts : ∀ w ∈ th_G, w.before #[Value.ref b] s = true) (hT : th_T (fun q : Nat => s.heap.size ≤ q) s) (hnc : th_nc s) (g o oo : Nat) (S : th_S) (i : Nat) (hi : i + 5 ≤ L) {H : Heap} {locs : List Loc} {cells slots : Nat} (hcl : cells + 8 ≤ 601024) (hsl : slots + 400 ≤ 7293034) (hI : th_LI Y s.heap.size g o oo S H) (hS : va_S (fun q : Nat => s.heap.size ≤ q) s.heap H locs) {ls : Array Slot} (hl : lv_has ls 7 [(0, .ref b), (1, .ref g), (2, .ref o), (3, .ref oo), (4, .int (nI i))]) (hcont : th_LC p l e s m below meth c b Y g o oo i cells slots) : W p l e room_1 s m #[Value.ref b] below meth c H locs cells slots (lw_Z below #[Value.ref b] s) (F0 m 873 ls []) := by
  obtain ⟨hx, hb, hr, hml, hown, hts9, hX, hbl, hlk, hgv⟩ := id C0
  obtain ⟨hK, hN⟩ := hKN
  have hown : s.vm.findClass RL = some m.cls := hown
  have hbA : ¬ (fun q : Nat => s.heap.size ≤ q) b := Nat.not_le.mpr hbl
  obtain ⟨ro, thr, f9, rfl, hJ, hro, hoo, hR, hO, hg⟩ := hI
  obtain ⟨ad, Vx, B, dsx, kvx, ks, wy, wz, rfl, hAd, hGI⟩ := hg
  have hAA := th_LAA hS.1 hO.lt (th_RGlt hR) hAd
  have hno : ¬ th_gA ad S.1 H.size oo := fun h9 => (hAA _ h9).2.1 rfl
  have hl : lv_has ls 7 [(0, .ref b), (1, .ref (ad 0)), (2, .ref (ro 0)), (3, .ref oo), (4, .int (nI i))] := hl
  refine lv_aload_n hx hb dL_law_873 rfl (lv_at hl 1 rfl) ?_
  refine lv_aload_n hx hb dL_law_874 rfl (lv_at hl 0 rfl) ?_
  refine lv_iload hx hb dL_law_875 (lv_at hl 4 rfl) ?_
  refine lv_iconst (v := nI 1) hx hb dL_law_877 (by decide) ?_
  refine lv_iadd hx hb dL_law_878 ?_
  refine th_ti (nI_add _ _) ?_
  refine th_sld hx hb hX hbl hbA hS (j := i + 1) (by omega) hL dL_law_879 ?_
  refine lv_aload_n hx hb dL_law_880 rfl (lv_at hl 0 rfl) ?_
  refine lv_iload hx hb dL_law_881 (lv_at hl 4 rfl) ?_
  refine lv_iconst (v := nI 2) hx hb dL_law_883 (by decide) ?_
  refine lv_iadd hx hb dL_law_884 ?_
  refine th_ti (nI_add _ _) ?_
  refine th_sld hx hb hX hbl hbA hS (j := i + 2) (by omega) hL dL_law_885 ?_
  refine lv_aload_n hx hb dL_law_886 rfl (lv_at hl 3 rfl) ?_
  refine thw_callS hx hb hml hown hts ⟨hK, hN⟩ hl hS ⟨hT, rfl, hnc⟩ (rest := []) (c_L_change l hl0 Y _ ad S Vx B dsx kvx ks wy wz hGI oo f9 hO hno (xs (i + 1)) (xs (i + 2))) tw_2_205 tw_1_0 tw_2_204 (by decide +kernel) (k := 4) tw_2_203 dL_law_887 rfl rfl (Nat.le_of_ble_eq_true rfl) ⟨(Nat.le_of_ble_eq_true rfl), (Nat.le_of_ble_eq_true rfl)⟩ ⟨hcl, hsl⟩ (fun q9 h9 => h9.elim (fun h8 => (hAA q9 h8).1) (fun e9 => by rw [e9]; exact hoo)) (fun v9 H1 locs hp hsm hS => ?_)
  have hk3 := k3_change S (xs (i + 1)) (xs (i + 2))
  generalize hre : sp_change S (xs (i + 1)) (xs (i + 2)) = r at hp hk3
  obtain ⟨rfl, hg1, f1, hO1, hf1⟩ := hp
  obtain ⟨hR, hg⟩ := th_Lw hAA hro hR hg1 (fun q9 h9 => h9) hsm
  have hO := hO1
  refine lv_istore (lv' := [(5, .int (nI r.1)), (0, .ref b), (1, .ref (ad 0)), (2, .ref (ro 0)), (3, .ref oo), (4, .int (nI i))]) hx hb dL_law_890 hl (by decide) rfl (fun ls hl => ?_)
  refine lv_aload_n hx hb dL_law_892 rfl (lv_at hl 3 rfl) ?_
  refine lv_aload_n hx hb dL_law_893 rfl (lv_at hl 1 rfl) ?_
  refine lv_iload hx hb dL_law_894 (lv_at hl 5 rfl) ?_
  refine lv_iconst (v := nI 1) hx hb dL_law_896 (by decide) ?_
  refine lv_iadd hx hb dL_law_897 ?_
  refine th_ti (nI_add _ _) ?_
  refine th_sld hx hb hX hbl hbA hS (j := i + 1) (by omega) hL dL_law_898 ?_
  refine lv_aload_n hx hb dL_law_899 rfl (lv_at hl 1 rfl) ?_
  refine lv_iload hx hb dL_law_900 (lv_at hl 5 rfl) ?_
  refine lv_iconst (v := nI 2) hx hb dL_law_902 (by decide) ?_
  refine lv_iadd hx hb dL_law_903 ?_
  refine th_ti (nI_add _ _) ?_
  refine th_sld hx hb hX hbl hbA hS (j := i + 2) (by omega) hL dL_law_904 ?_
  obtain ⟨stp, efr, esz, etr, val, siz, tre, spa, pro, bes, isr, key, lev, kvi, ksz, krt, ala, fol, cts, hPr, hvr⟩ := id hR
  obtain ⟨fs9, hB9⟩ := th_RG0 hR
  refine th_callV hx hb hml hown hts ⟨hK, hN⟩ hl hS hB9 rfl (rest := []) (c_X6_change l Y _ ro hJ S _ stp efr esz etr val siz tre spa pro bes isr key lev kvi ksz krt ala fol cts hPr hvr (xs (i + 1)) (xs (i + 2))) ok_X6_change tw_4_98 dL_law_905 rfl rfl (Nat.le_of_ble_eq_true rfl) ⟨(Nat.le_of_ble_eq_true rfl), (Nat.le_of_ble_eq_true rfl)⟩ ⟨hcl, hsl⟩ (fun q9 h9 => by obtain ⟨j9, hj9, e9⟩ := th_inro h9; rw [← e9]; exact (hro j9 hj9).1) (th_ki (fun x9 H2 locs hp hsm2 hS => ?_))
  rw [hre] at hp
  obtain ⟨hx9, hR⟩ := hp
  obtain ⟨hO, hg⟩ := th_Lm hro hO hg hsm2
  refine lv_istore (lv' := [(6, .int x9), (5, .int (nI r.1)), (0, .ref b), (1, .ref (ad 0)), (2, .ref (ro 0)), (3, .ref oo), (4, .int (nI i))]) hx hb dL_law_908 hl (by decide) rfl (fun ls hl => ?_)
  refine lv_aload_n hx hb dL_law_910 rfl (lv_at hl 4 rfl) ?_
  obtain ⟨fs9, hB9⟩ := th_RG0 hR
  refine th_callV hx hb hml hown hts ⟨hK, hN⟩ hl hS hB9 rfl (rest := []) (th_Lthr l hR) ok_X6_thrown tw_3_222 dL_law_911 rfl rfl (Nat.le_of_ble_eq_true rfl) ⟨(Nat.le_of_ble_eq_true rfl), (Nat.le_of_ble_eq_true rfl)⟩ ⟨hcl, hsl⟩ (fun _ h9 => h9.elim) (th_kpi (fun locs hS => ?_))
  refine lv_iload hx hb dL_law_914 (lv_at hl 1 rfl) ?_
  refine lv_icmp_eq (tgt := 921) hx hb dL_law_916 (by decide) (fun c_1 => ?_) (fun c_1 => by exfalso; exact c_1 rfl)
  refine lv_iload hx hb dL_law_921 (lv_at hl 1 rfl) ?_
  refine lv_if_ne (tgt := 938) hx hb dL_law_923 (by decide) (fun hc9 => ?_) (fun hc9 => ?_)
  · skip
    refine lv_goto (tgt := 1949) hx hb dL_law_938 (by decide) ?_
    exact hcont _ _ _ _ ⟨ro, _, _, rfl, hJ, hro, hoo, hR, hO, hg⟩ hS (lv_sub hl [2, 3, 4, 5, 6] rfl)
  have hr0 : r.1 = 0 := (th_nI0 hk3).mp hc9
  have hx9 := hx9 hr0
  have hf1 := hf1 hr0
  refine lv_aload_n hx hb dL_law_926 rfl (lv_at hl 5 rfl) ?_
  refine lv_iconst (v := nI 0) hx hb dL_law_927 (by decide) ?_
  refine th_lal0 hx hb hK hO dL_law_928 ?_
  refine lv_iload hx hb dL_law_929 (lv_at hl 0 rfl) ?_
  refine lv_i2l hx hb dL_law_931 rfl ?_
  refine th_lcmp0 (hf1.trans (congrArg Int32.toInt64 hx9.symm)) hx hb dL_law_932 ?_
  refine th_zeq (tgt := 938) hx hb dL_law_933 (by decide) (by omega) (fun c_2 => ?_) (fun c_2 => by exfalso; omega)
  refine lv_goto (tgt := 1949) hx hb dL_law_938 (by decide) ?_
  exact hcont _ _ _ _ ⟨ro, _, _, rfl, hJ, hro, hoo, hR, hO, hg⟩ hS (lv_sub hl [2, 3, 4, 5, 6] rfl)

set_option maxRecDepth 100000 in
set_option maxHeartbeats 1600000 in
theorem law_c12 {p : Program} {e : Env} {s : State} {m : MethodId} {below : List Frame} {meth : Method} {c : Code} (l : Launch) (hl0 : l.stackTraces = false) (Y : th_Y) {b L : Nat} {xs : Nat → Int32} (hL : L ≤ 2560) (C0 : lw_At p s m meth c b L xs) (hKN : th_K Y s) (hts : ∀ w ∈ th_G, w.before #[Value.ref b] s = true) (hT : th_T (fun q : Nat => s.heap.size ≤ q) s) (hnc : th_nc s) (g o oo : Nat) (S : th_S) (i : Nat) (hi : i + 5 ≤ L) {H : Heap} {locs : List Loc} {cells slots : Nat} (hcl : cells + 8 ≤ 601024) (hsl : slots + 400 ≤ 7293034) (hI : th_LI Y s.heap.size g o oo S H) (hS : va_S (fun q : Nat => s.heap.size ≤ q) s.heap H locs) {ls : Array Slot} (hl : lv_has ls 7 [(0, .ref b), (1, .ref g), (2, .ref o), (3, .ref oo), (4, .int (nI i))]) (hcont : th_LC p l e s m below meth c b Y g o oo i cells slots) : W p l e room_1 s m #[Value.ref b] below meth c H locs cells slots (lw_Z below #[Value.ref b] s) (F0 m 941 ls []) := by
  obtain ⟨hx, hb, hr, hml, hown, hts9, hX, hbl, hlk, hgv⟩ := id C0
  obtain ⟨hK, hN⟩ := hKN
  have hown : s.vm.findClass RL = some m.cls := hown
  have hbA : ¬ (fun q : Nat => s.heap.size ≤ q) b := Nat.not_le.mpr hbl
  obtain ⟨ro, thr, f9, rfl, hJ, hro, hoo, hR, hO, hg⟩ := hI
  obtain ⟨ad, Vx, B, dsx, kvx, ks, wy, wz, rfl, hAd, hGI⟩ := hg
  have hAA := th_LAA hS.1 hO.lt (th_RGlt hR) hAd
  have hno : ¬ th_gA ad S.1 H.size oo := fun h9 => (hAA _ h9).2.1 rfl
  have hl : lv_has ls 7 [(0, .ref b), (1, .ref (ad 0)), (2, .ref (ro 0)), (3, .ref oo), (4, .int (nI i))] := hl
  refine lv_aload_n hx hb dL_law_941 rfl (lv_at hl 1 rfl) ?_
  refine lv_aload_n hx hb dL_law_942 rfl (lv_at hl 3 rfl) ?_
  refine thw_callS hx hb hml hown hts ⟨hK, hN⟩ hl hS ⟨hT, rfl, hnc⟩ (rest := []) (c_L_shorten l hl0 Y _ ad S Vx B dsx kvx ks wy wz hGI oo f9 hO hno) tw_2_219 tw_1_0 tw_2_218 (by decide +kernel) (k := 2) tw_2_217 dL_law_943 rfl rfl (Nat.le_of_ble_eq_true rfl) ⟨(Nat.le_of_ble_eq_true rfl), (Nat.le_of_ble_eq_true rfl)⟩ ⟨hcl, hsl⟩ (fun q9 h9 => h9.elim (fun h8 => (hAA q9 h8).1) (fun e9 => by rw [e9]; exact hoo)) (fun v9 H1 locs hp hsm hS => ?_)
  have hk3 := k3_shorten S
  generalize hre : sp_shorten S = r at hp hk3
  obtain ⟨rfl, hg1, f1, hO1, hf1⟩ := hp
  obtain ⟨hR, hg⟩ := th_Lw hAA hro hR hg1 (fun q9 h9 => h9) hsm
  have hO := hO1
  refine lv_istore (lv' := [(5, .int (nI r.1)), (0, .ref b), (1, .ref (ad 0)), (2, .ref (ro 0)), (3, .ref oo), (4, .int (nI i))]) hx hb dL_law_946 hl (by decide) rfl (fun ls hl => ?_)
  refine lv_aload_n hx hb dL_law_948 rfl (lv_at hl 3 rfl) ?_
  obtain ⟨stp, efr, esz, etr, val, siz, tre, spa, pro, bes, isr, key, lev, kvi, ksz, krt, ala, fol, cts, hPr, hvr⟩ := id hR
  obtain ⟨fs9, hB9⟩ := th_RG0 hR
  refine th_callV hx hb hml hown hts ⟨hK, hN⟩ hl hS hB9 rfl (rest := []) (c_X6_shorten l Y _ ro hJ S _ stp efr esz etr val siz tre spa pro bes isr key lev kvi ksz krt ala fol cts hPr hvr) ok_X6_shorten tw_4_103 dL_law_949 rfl rfl (Nat.le_of_ble_eq_true rfl) ⟨(Nat.le_of_ble_eq_true rfl), (Nat.le_of_ble_eq_true rfl)⟩ ⟨hcl, hsl⟩ (fun q9 h9 => by obtain ⟨j9, hj9, e9⟩ := th_inro h9; rw [← e9]; exact (hro j9 hj9).1) (th_ki (fun x9 H2 locs hp hsm2 hS => ?_))
  rw [hre] at hp
  obtain ⟨hx9, hR⟩ := hp
  obtain ⟨hO, hg⟩ := th_Lm hro hO hg hsm2
  refine lv_istore (lv' := [(6, .int x9), (5, .int (nI r.1)), (0, .ref b), (1, .ref (ad 0)), (2, .ref (ro 0)), (3, .ref oo), (4, .int (nI i))]) hx hb dL_law_952 hl (by decide) rfl (fun ls hl => ?_)
  refine lv_aload_n hx hb dL_law_954 rfl (lv_at hl 4 rfl) ?_
  obtain ⟨fs9, hB9⟩ := th_RG0 hR
  refine th_callV hx hb hml hown hts ⟨hK, hN⟩ hl hS hB9 rfl (rest := []) (th_Lthr l hR) ok_X6_thrown tw_3_222 dL_law_955 rfl rfl (Nat.le_of_ble_eq_true rfl) ⟨(Nat.le_of_ble_eq_true rfl), (Nat.le_of_ble_eq_true rfl)⟩ ⟨hcl, hsl⟩ (fun _ h9 => h9.elim) (th_kpi (fun locs hS => ?_))
  refine lv_iload hx hb dL_law_958 (lv_at hl 1 rfl) ?_
  refine lv_icmp_eq (tgt := 965) hx hb dL_law_960 (by decide) (fun c_1 => ?_) (fun c_1 => by exfalso; exact c_1 rfl)
  refine lv_iload hx hb dL_law_965 (lv_at hl 1 rfl) ?_
  refine lv_if_ne (tgt := 982) hx hb dL_law_967 (by decide) (fun hc9 => ?_) (fun hc9 => ?_)
  · skip
    refine lv_goto (tgt := 1949) hx hb dL_law_982 (by decide) ?_
    exact hcont _ _ _ _ ⟨ro, _, _, rfl, hJ, hro, hoo, hR, hO, hg⟩ hS (lv_sub hl [2, 3, 4, 5, 6] rfl)
  have hr0 : r.1 = 0 := (th_nI0 hk3).mp hc9
  have hx9 := hx9 hr0
  have hf1 := hf1 hr0
  refine lv_aload_n hx hb dL_law_970 rfl (lv_at hl 5 rfl) ?_
  refine lv_iconst (v := nI 0) hx hb dL_law_971 (by decide) ?_
  refine th_lal0 hx hb hK hO dL_law_972 ?_
  refine lv_iload hx hb dL_law_973 (lv_at hl 0 rfl) ?_
  refine lv_i2l hx hb dL_law_975 rfl ?_
  refine th_lcmp0 (hf1.trans (congrArg Int32.toInt64 hx9.symm)) hx hb dL_law_976 ?_
  refine th_zeq (tgt := 982) hx hb dL_law_977 (by decide) (by omega) (fun c_2 => ?_) (fun c_2 => by exfalso; omega)
  refine lv_goto (tgt := 1949) hx hb dL_law_982 (by decide) ?_
  exact hcont _ _ _ _ ⟨ro, _, _, rfl, hJ, hro, hoo, hR, hO, hg⟩ hS (lv_sub hl [2, 3, 4, 5, 6] rfl)

set_option maxRecDepth 100000 in
set_option maxHeartbeats 1600000 in
theorem law_c13 {p : Program} {e : Env} {s : State} {m : MethodId} {below : List Frame} {meth : Method} {c : Code} (l : Launch) (hl0 : l.stackTraces = false) (Y : th_Y) {b L : Nat} {xs : Nat → Int32} (hL : L ≤ 2560) (C0 : lw_At p s m meth c b L xs) (hKN : th_K Y s) (hts : ∀ w ∈ th_G, w.before #[Value.ref b] s = true) (hT : th_T (fun q : Nat => s.heap.size ≤ q) s) (hnc : th_nc s) (g o oo : Nat) (S : th_S) (i : Nat) (hi : i + 5 ≤ L) {H : Heap} {locs : List Loc} {cells slots : Nat} (hcl : cells + 8 ≤ 601024) (hsl : slots + 400 ≤ 7293034) (hI : th_LI Y s.heap.size g o oo S H) (hS : va_S (fun q : Nat => s.heap.size ≤ q) s.heap H locs) {ls : Array Slot} (hl : lv_has ls 7 [(0, .ref b), (1, .ref g), (2, .ref o), (3, .ref oo), (4, .int (nI i))]) (hcont : th_LC p l e s m below meth c b Y g o oo i cells slots) : W p l e room_1 s m #[Value.ref b] below meth c H locs cells slots (lw_Z below #[Value.ref b] s) (F0 m 985 ls []) := by
  obtain ⟨hx, hb, hr, hml, hown, hts9, hX, hbl, hlk, hgv⟩ := id C0
  obtain ⟨hK, hN⟩ := hKN
  have hown : s.vm.findClass RL = some m.cls := hown
  have hbA : ¬ (fun q : Nat => s.heap.size ≤ q) b := Nat.not_le.mpr hbl
  obtain ⟨ro, thr, f9, rfl, hJ, hro, hoo, hR, hO, hg⟩ := hI
  obtain ⟨ad, Vx, B, dsx, kvx, ks, wy, wz, rfl, hAd, hGI⟩ := hg
  have hAA := th_LAA hS.1 hO.lt (th_RGlt hR) hAd
  have hno : ¬ th_gA ad S.1 H.size oo := fun h9 => (hAA _ h9).2.1 rfl
  have hl : lv_has ls 7 [(0, .ref b), (1, .ref (ad 0)), (2, .ref (ro 0)), (3, .ref oo), (4, .int (nI i))] := hl
  refine lv_aload_n hx hb dL_law_985 rfl (lv_at hl 1 rfl) ?_
  refine th_callV hx hb hml hown hts ⟨hK, hN⟩ hl hS ((th_gO hGI.1) 0 _ rfl) rfl (rest := []) (c_X5_sums l Y _ ad S Vx B dsx kvx ks wy wz hGI) ok_X5_sums tw_1_153 dL_law_986 rfl rfl (Nat.le_of_ble_eq_true rfl) ⟨(Nat.le_of_ble_eq_true rfl), (Nat.le_of_ble_eq_true rfl)⟩ ⟨hcl, hsl⟩ (fun q9 h9 => (hAA q9 h9).1) (th_ki (fun y9 H1 locs hp hsm hS => ?_))
  obtain ⟨-, hy9, hg1⟩ := hp
  have hO := hO.kept (hsm.2 _ hO.lt hno)
  obtain ⟨hR, hg⟩ := th_Lw hAA hro hR hg1 (fun q9 h9 => Or.inl h9) hsm
  refine lv_aload_n hx hb dL_law_989 rfl (lv_at hl 2 rfl) ?_
  obtain ⟨stp, efr, esz, etr, val, siz, tre, spa, pro, bes, isr, key, lev, kvi, ksz, krt, ala, fol, cts, hPr, hvr⟩ := id hR
  obtain ⟨fs9, hB9⟩ := th_RG0 hR
  refine th_callV hx hb hml hown hts ⟨hK, hN⟩ hl hS hB9 rfl (rest := [.int y9]) (c_X6_sums l Y _ ro hJ S _ stp efr esz etr val siz tre spa pro bes isr key lev kvi ksz krt ala fol cts hPr hvr) ok_X6_sums tw_4_107 dL_law_990 rfl rfl (Nat.le_of_ble_eq_true rfl) ⟨(Nat.le_of_ble_eq_true rfl), (Nat.le_of_ble_eq_true rfl)⟩ ⟨hcl, hsl⟩ (fun q9 h9 => by obtain ⟨j9, hj9, e9⟩ := th_inro h9; rw [← e9]; exact (hro j9 hj9).1) (th_ki (fun x9 H2 locs hp hsm2 hS => ?_))
  obtain ⟨hx9, hR⟩ := hp
  have hx9 : x9 = y9 := (hx9 rfl).trans hy9.symm
  obtain ⟨hO, hg⟩ := th_Lm hro hO hg hsm2
  refine lv_icmp_eq (tgt := 1949) hx hb dL_law_993 (by decide) (fun c_1 => ?_) (fun c_1 => by exfalso; exact c_1 hx9.symm)
  exact hcont _ _ _ _ ⟨ro, _, _, rfl, hJ, hro, hoo, hR, hO, hg⟩ hS (lv_sub hl [0, 1, 2, 3, 4] rfl)

set_option maxRecDepth 100000 in
set_option maxHeartbeats 1600000 in
theorem law_c14 {p : Program} {e : Env} {s : State} {m : MethodId} {below : List Frame} {meth : Method} {c : Code} (l : Launch) (hl0 : l.stackTraces = false) (Y : th_Y) {b L : Nat} {xs : Nat → Int32} (hL : L ≤ 2560) (C0 : lw_At p s m meth c b L xs) (hKN : th_K Y s) (hts : ∀ w ∈ th_G, w.before #[Value.ref b] s = true) (hT : th_T (fun q : Nat => s.heap.size ≤ q) s) (hnc : th_nc s) (g o oo : Nat) (S : th_S) (i : Nat) (hi : i + 5 ≤ L) {H : Heap} {locs : List Loc} {cells slots : Nat} (hcl : cells + 8 ≤ 601024) (hsl : slots + 400 ≤ 7293034) (hI : th_LI Y s.heap.size g o oo S H) (hS : va_S (fun q : Nat => s.heap.size ≤ q) s.heap H locs) {ls : Array Slot} (hl : lv_has ls 7 [(0, .ref b), (1, .ref g), (2, .ref o), (3, .ref oo), (4, .int (nI i))]) (hcont : th_LC p l e s m below meth c b Y g o oo i cells slots) : W p l e room_1 s m #[Value.ref b] below meth c H locs cells slots (lw_Z below #[Value.ref b] s) (F0 m 998 ls []) := by
  obtain ⟨hx, hb, hr, hml, hown, hts9, hX, hbl, hlk, hgv⟩ := id C0
  obtain ⟨hK, hN⟩ := hKN
  have hown : s.vm.findClass RL = some m.cls := hown
  have hbA : ¬ (fun q : Nat => s.heap.size ≤ q) b := Nat.not_le.mpr hbl
  obtain ⟨ro, thr, f9, rfl, hJ, hro, hoo, hR, hO, hg⟩ := hI
  obtain ⟨ad, Vx, B, dsx, kvx, ks, wy, wz, rfl, hAd, hGI⟩ := hg
  have hAA := th_LAA hS.1 hO.lt (th_RGlt hR) hAd
  have hno : ¬ th_gA ad S.1 H.size oo := fun h9 => (hAA _ h9).2.1 rfl
  have hl : lv_has ls 7 [(0, .ref b), (1, .ref (ad 0)), (2, .ref (ro 0)), (3, .ref oo), (4, .int (nI i))] := hl
  refine lv_aload_n hx hb dL_law_998 rfl (lv_at hl 1 rfl) ?_
  refine lv_aload_n hx hb dL_law_999 rfl (lv_at hl 0 rfl) ?_
  refine lv_iload hx hb dL_law_1000 (lv_at hl 4 rfl) ?_
  refine lv_iconst (v := nI 1) hx hb dL_law_1002 (by decide) ?_
  refine lv_iadd hx hb dL_law_1003 ?_
  refine th_ti (nI_add _ _) ?_
  refine th_sld hx hb hX hbl hbA hS (j := i + 1) (by omega) hL dL_law_1004 ?_
  refine lv_aload_n hx hb dL_law_1005 rfl (lv_at hl 3 rfl) ?_
  refine thw_callS hx hb hml hown hts ⟨hK, hN⟩ hl hS ⟨hT, rfl, hnc⟩ (rest := []) (c_L_sumAt l hl0 Y _ ad S Vx B dsx kvx ks wy wz hGI oo f9 hO hno (xs (i + 1))) tw_2_235 tw_1_0 tw_2_234 (by decide +kernel) (k := 3) tw_2_233 dL_law_1006 rfl rfl (Nat.le_of_ble_eq_true rfl) ⟨(Nat.le_of_ble_eq_true rfl), (Nat.le_of_ble_eq_true rfl)⟩ ⟨hcl, hsl⟩ (fun q9 h9 => h9.elim (fun h8 => (hAA q9 h8).1) (fun e9 => by rw [e9]; exact hoo)) (fun v9 H1 locs hp hsm hS => ?_)
  have hk3 := k3_sumAt S (xs (i + 1))
  generalize hre : sp_sumAt S (xs (i + 1)) = r at hp hk3
  obtain ⟨rfl, hg1, f1, hO1, hf1⟩ := hp
  obtain ⟨hR, hg⟩ := th_Lw hAA hro hR hg1 (fun q9 h9 => h9) hsm
  have hO := hO1
  refine lv_istore (lv' := [(5, .int (nI r.1)), (0, .ref b), (1, .ref (ad 0)), (2, .ref (ro 0)), (3, .ref oo), (4, .int (nI i))]) hx hb dL_law_1009 hl (by decide) rfl (fun ls hl => ?_)
  refine lv_aload_n hx hb dL_law_1011 rfl (lv_at hl 3 rfl) ?_
  refine lv_aload_n hx hb dL_law_1012 rfl (lv_at hl 1 rfl) ?_
  refine lv_iload hx hb dL_law_1013 (lv_at hl 5 rfl) ?_
  refine lv_iconst (v := nI 1) hx hb dL_law_1015 (by decide) ?_
  refine lv_iadd hx hb dL_law_1016 ?_
  refine th_ti (nI_add _ _) ?_
  refine th_sld hx hb hX hbl hbA hS (j := i + 1) (by omega) hL dL_law_1017 ?_
  obtain ⟨stp, efr, esz, etr, val, siz, tre, spa, pro, bes, isr, key, lev, kvi, ksz, krt, ala, fol, cts, hPr, hvr⟩ := id hR
  obtain ⟨fs9, hB9⟩ := th_RG0 hR
  refine th_callV hx hb hml hown hts ⟨hK, hN⟩ hl hS hB9 rfl (rest := []) (c_X6_sumAt l Y _ ro hJ S _ stp efr esz etr val siz tre spa pro bes isr key lev kvi ksz krt ala fol cts hPr hvr (xs (i + 1))) ok_X6_sumAt tw_4_111 dL_law_1018 rfl rfl (Nat.le_of_ble_eq_true rfl) ⟨(Nat.le_of_ble_eq_true rfl), (Nat.le_of_ble_eq_true rfl)⟩ ⟨hcl, hsl⟩ (fun q9 h9 => by obtain ⟨j9, hj9, e9⟩ := th_inro h9; rw [← e9]; exact (hro j9 hj9).1) (th_ki (fun x9 H2 locs hp hsm2 hS => ?_))
  rw [hre] at hp
  obtain ⟨hx9, hR⟩ := hp
  obtain ⟨hO, hg⟩ := th_Lm hro hO hg hsm2
  refine lv_istore (lv' := [(6, .int x9), (5, .int (nI r.1)), (0, .ref b), (1, .ref (ad 0)), (2, .ref (ro 0)), (3, .ref oo), (4, .int (nI i))]) hx hb dL_law_1021 hl (by decide) rfl (fun ls hl => ?_)
  refine lv_aload_n hx hb dL_law_1023 rfl (lv_at hl 4 rfl) ?_
  obtain ⟨fs9, hB9⟩ := th_RG0 hR
  refine th_callV hx hb hml hown hts ⟨hK, hN⟩ hl hS hB9 rfl (rest := []) (th_Lthr l hR) ok_X6_thrown tw_3_222 dL_law_1024 rfl rfl (Nat.le_of_ble_eq_true rfl) ⟨(Nat.le_of_ble_eq_true rfl), (Nat.le_of_ble_eq_true rfl)⟩ ⟨hcl, hsl⟩ (fun _ h9 => h9.elim) (th_kpi (fun locs hS => ?_))
  refine lv_iload hx hb dL_law_1027 (lv_at hl 1 rfl) ?_
  refine lv_icmp_eq (tgt := 1034) hx hb dL_law_1029 (by decide) (fun c_1 => ?_) (fun c_1 => by exfalso; exact c_1 rfl)
  refine lv_iload hx hb dL_law_1034 (lv_at hl 1 rfl) ?_
  refine lv_if_ne (tgt := 1051) hx hb dL_law_1036 (by decide) (fun hc9 => ?_) (fun hc9 => ?_)
  · skip
    refine lv_goto (tgt := 1949) hx hb dL_law_1051 (by decide) ?_
    exact hcont _ _ _ _ ⟨ro, _, _, rfl, hJ, hro, hoo, hR, hO, hg⟩ hS (lv_sub hl [2, 3, 4, 5, 6] rfl)
  have hr0 : r.1 = 0 := (th_nI0 hk3).mp hc9
  have hx9 := hx9 hr0
  have hf1 := hf1 hr0
  refine lv_aload_n hx hb dL_law_1039 rfl (lv_at hl 5 rfl) ?_
  refine lv_iconst (v := nI 0) hx hb dL_law_1040 (by decide) ?_
  refine th_lal0 hx hb hK hO dL_law_1041 ?_
  refine lv_iload hx hb dL_law_1042 (lv_at hl 0 rfl) ?_
  refine lv_i2l hx hb dL_law_1044 rfl ?_
  refine th_lcmp0 (hf1.trans (congrArg Int32.toInt64 hx9.symm)) hx hb dL_law_1045 ?_
  refine th_zeq (tgt := 1051) hx hb dL_law_1046 (by decide) (by omega) (fun c_2 => ?_) (fun c_2 => by exfalso; omega)
  refine lv_goto (tgt := 1949) hx hb dL_law_1051 (by decide) ?_
  exact hcont _ _ _ _ ⟨ro, _, _, rfl, hJ, hro, hoo, hR, hO, hg⟩ hS (lv_sub hl [2, 3, 4, 5, 6] rfl)

set_option maxRecDepth 100000 in
set_option maxHeartbeats 1600000 in
theorem law_c15 {p : Program} {e : Env} {s : State} {m : MethodId} {below : List Frame} {meth : Method} {c : Code} (l : Launch) (hl0 : l.stackTraces = false) (Y : th_Y) {b L : Nat} {xs : Nat → Int32} (hL : L ≤ 2560) (C0 : lw_At p s m meth c b L xs) (hKN : th_K Y s) (hts : ∀ w ∈ th_G, w.before #[Value.ref b] s = true) (hT : th_T (fun q : Nat => s.heap.size ≤ q) s) (hnc : th_nc s) (g o oo : Nat) (S : th_S) (i : Nat) (hi : i + 5 ≤ L) {H : Heap} {locs : List Loc} {cells slots : Nat} (hcl : cells + 8 ≤ 601024) (hsl : slots + 400 ≤ 7293034) (hI : th_LI Y s.heap.size g o oo S H) (hS : va_S (fun q : Nat => s.heap.size ≤ q) s.heap H locs) {ls : Array Slot} (hl : lv_has ls 7 [(0, .ref b), (1, .ref g), (2, .ref o), (3, .ref oo), (4, .int (nI i))]) (hcont : th_LC p l e s m below meth c b Y g o oo i cells slots) : W p l e room_1 s m #[Value.ref b] below meth c H locs cells slots (lw_Z below #[Value.ref b] s) (F0 m 1054 ls []) := by
  obtain ⟨hx, hb, hr, hml, hown, hts9, hX, hbl, hlk, hgv⟩ := id C0
  obtain ⟨hK, hN⟩ := hKN
  have hown : s.vm.findClass RL = some m.cls := hown
  have hbA : ¬ (fun q : Nat => s.heap.size ≤ q) b := Nat.not_le.mpr hbl
  obtain ⟨ro, thr, f9, rfl, hJ, hro, hoo, hR, hO, hg⟩ := hI
  obtain ⟨ad, Vx, B, dsx, kvx, ks, wy, wz, rfl, hAd, hGI⟩ := hg
  have hAA := th_LAA hS.1 hO.lt (th_RGlt hR) hAd
  have hno : ¬ th_gA ad S.1 H.size oo := fun h9 => (hAA _ h9).2.1 rfl
  have hl : lv_has ls 7 [(0, .ref b), (1, .ref (ad 0)), (2, .ref (ro 0)), (3, .ref oo), (4, .int (nI i))] := hl
  refine lv_aload_n hx hb dL_law_1054 rfl (lv_at hl 1 rfl) ?_
  refine lv_aload_n hx hb dL_law_1055 rfl (lv_at hl 0 rfl) ?_
  refine lv_iload hx hb dL_law_1056 (lv_at hl 4 rfl) ?_
  refine lv_iconst (v := nI 1) hx hb dL_law_1058 (by decide) ?_
  refine lv_iadd hx hb dL_law_1059 ?_
  refine th_ti (nI_add _ _) ?_
  refine th_sld hx hb hX hbl hbA hS (j := i + 1) (by omega) hL dL_law_1060 ?_
  refine lv_aload_n hx hb dL_law_1061 rfl (lv_at hl 0 rfl) ?_
  refine lv_iload hx hb dL_law_1062 (lv_at hl 4 rfl) ?_
  refine lv_iconst (v := nI 2) hx hb dL_law_1064 (by decide) ?_
  refine lv_iadd hx hb dL_law_1065 ?_
  refine th_ti (nI_add _ _) ?_
  refine th_sld hx hb hX hbl hbA hS (j := i + 2) (by omega) hL dL_law_1066 ?_
  refine lv_aload_n hx hb dL_law_1067 rfl (lv_at hl 0 rfl) ?_
  refine lv_iload hx hb dL_law_1068 (lv_at hl 4 rfl) ?_
  refine lv_iconst (v := nI 3) hx hb dL_law_1070 (by decide) ?_
  refine lv_iadd hx hb dL_law_1071 ?_
  refine th_ti (nI_add _ _) ?_
  refine th_sld hx hb hX hbl hbA hS (j := i + 3) (by omega) hL dL_law_1072 ?_
  refine lv_aload_n hx hb dL_law_1073 rfl (lv_at hl 0 rfl) ?_
  refine lv_iload hx hb dL_law_1074 (lv_at hl 4 rfl) ?_
  refine lv_iconst (v := nI 4) hx hb dL_law_1076 (by decide) ?_
  refine lv_iadd hx hb dL_law_1077 ?_
  refine th_ti (nI_add _ _) ?_
  refine th_sld hx hb hX hbl hbA hS (j := i + 4) (by omega) hL dL_law_1078 ?_
  refine lv_aload_n hx hb dL_law_1079 rfl (lv_at hl 3 rfl) ?_
  refine thw_callS hx hb hml hown hts ⟨hK, hN⟩ hl hS ⟨hT, rfl, hnc⟩ (rest := []) (c_L_testLeaf l hl0 Y _ ad S Vx B dsx kvx ks wy wz hGI oo f9 hO hno (xs (i + 1)) (xs (i + 2)) (xs (i + 3)) (xs (i + 4))) tw_3_4 tw_1_0 tw_3_3 (by decide +kernel) (k := 6) tw_3_2 dL_law_1080 rfl rfl (Nat.le_of_ble_eq_true rfl) ⟨(Nat.le_of_ble_eq_true rfl), (Nat.le_of_ble_eq_true rfl)⟩ ⟨hcl, hsl⟩ (fun q9 h9 => h9.elim (fun h8 => (hAA q9 h8).1) (fun e9 => by rw [e9]; exact hoo)) (fun v9 H1 locs hp hsm hS => ?_)
  have hk3 := k3_testLeaf S (xs (i + 1)) (xs (i + 2)) (xs (i + 3)) (xs (i + 4))
  generalize hre : sp_testLeaf S (xs (i + 1)) (xs (i + 2)) (xs (i + 3)) (xs (i + 4)) = r at hp hk3
  obtain ⟨rfl, hg1, f1, hO1, hf1⟩ := hp
  obtain ⟨hR, hg⟩ := th_Lw hAA hro hR hg1 (fun q9 h9 => h9) hsm
  have hO := hO1
  refine lv_istore (lv' := [(5, .int (nI r.1)), (0, .ref b), (1, .ref (ad 0)), (2, .ref (ro 0)), (3, .ref oo), (4, .int (nI i))]) hx hb dL_law_1083 hl (by decide) rfl (fun ls hl => ?_)
  refine lv_aload_n hx hb dL_law_1085 rfl (lv_at hl 3 rfl) ?_
  refine lv_aload_n hx hb dL_law_1086 rfl (lv_at hl 1 rfl) ?_
  refine lv_iload hx hb dL_law_1087 (lv_at hl 5 rfl) ?_
  refine lv_iconst (v := nI 1) hx hb dL_law_1089 (by decide) ?_
  refine lv_iadd hx hb dL_law_1090 ?_
  refine th_ti (nI_add _ _) ?_
  refine th_sld hx hb hX hbl hbA hS (j := i + 1) (by omega) hL dL_law_1091 ?_
  refine lv_aload_n hx hb dL_law_1092 rfl (lv_at hl 1 rfl) ?_
  refine lv_iload hx hb dL_law_1093 (lv_at hl 5 rfl) ?_
  refine lv_iconst (v := nI 2) hx hb dL_law_1095 (by decide) ?_
  refine lv_iadd hx hb dL_law_1096 ?_
  refine th_ti (nI_add _ _) ?_
  refine th_sld hx hb hX hbl hbA hS (j := i + 2) (by omega) hL dL_law_1097 ?_
  refine lv_aload_n hx hb dL_law_1098 rfl (lv_at hl 1 rfl) ?_
  refine lv_iload hx hb dL_law_1099 (lv_at hl 5 rfl) ?_
  refine lv_iconst (v := nI 3) hx hb dL_law_1101 (by decide) ?_
  refine lv_iadd hx hb dL_law_1102 ?_
  refine th_ti (nI_add _ _) ?_
  refine th_sld hx hb hX hbl hbA hS (j := i + 3) (by omega) hL dL_law_1103 ?_
  refine lv_aload_n hx hb dL_law_1104 rfl (lv_at hl 1 rfl) ?_
  refine lv_iload hx hb dL_law_1105 (lv_at hl 5 rfl) ?_
  refine lv_iconst (v := nI 4) hx hb dL_law_1107 (by decide) ?_
  refine lv_iadd hx hb dL_law_1108 ?_
  refine th_ti (nI_add _ _) ?_
  refine th_sld hx hb hX hbl hbA hS (j := i + 4) (by omega) hL dL_law_1109 ?_
  obtain ⟨stp, efr, esz, etr, val, siz, tre, spa, pro, bes, isr, key, lev, kvi, ksz, krt, ala, fol, cts, hPr, hvr⟩ := id hR
  obtain ⟨fs9, hB9⟩ := th_RG0 hR
  refine th_callV hx hb hml hown hts ⟨hK, hN⟩ hl hS hB9 rfl (rest := []) (c_X6_testLeaf l Y _ ro hJ S _ stp efr esz etr val siz tre spa pro bes isr key lev kvi ksz krt ala fol cts hPr hvr (xs (i + 1)) (xs (i + 2)) (xs (i + 3)) (xs (i + 4))) ok_X6_testLeaf tw_4_115 dL_law_1110 rfl rfl (Nat.le_of_ble_eq_true rfl) ⟨(Nat.le_of_ble_eq_true rfl), (Nat.le_of_ble_eq_true rfl)⟩ ⟨hcl, hsl⟩ (fun q9 h9 => by obtain ⟨j9, hj9, e9⟩ := th_inro h9; rw [← e9]; exact (hro j9 hj9).1) (th_ki (fun x9 H2 locs hp hsm2 hS => ?_))
  rw [hre] at hp
  obtain ⟨hx9, hR⟩ := hp
  obtain ⟨hO, hg⟩ := th_Lm hro hO hg hsm2
  refine lv_istore (lv' := [(6, .int x9), (5, .int (nI r.1)), (0, .ref b), (1, .ref (ad 0)), (2, .ref (ro 0)), (3, .ref oo), (4, .int (nI i))]) hx hb dL_law_1113 hl (by decide) rfl (fun ls hl => ?_)
  refine lv_aload_n hx hb dL_law_1115 rfl (lv_at hl 4 rfl) ?_
  obtain ⟨fs9, hB9⟩ := th_RG0 hR
  refine th_callV hx hb hml hown hts ⟨hK, hN⟩ hl hS hB9 rfl (rest := []) (th_Lthr l hR) ok_X6_thrown tw_3_222 dL_law_1116 rfl rfl (Nat.le_of_ble_eq_true rfl) ⟨(Nat.le_of_ble_eq_true rfl), (Nat.le_of_ble_eq_true rfl)⟩ ⟨hcl, hsl⟩ (fun _ h9 => h9.elim) (th_kpi (fun locs hS => ?_))
  refine lv_iload hx hb dL_law_1119 (lv_at hl 1 rfl) ?_
  refine lv_icmp_eq (tgt := 1126) hx hb dL_law_1121 (by decide) (fun c_1 => ?_) (fun c_1 => by exfalso; exact c_1 rfl)
  refine lv_iload hx hb dL_law_1126 (lv_at hl 1 rfl) ?_
  refine lv_if_ne (tgt := 1150) hx hb dL_law_1128 (by decide) (fun hc9 => ?_) (fun hc9 => ?_)
  · skip
    refine lv_goto (tgt := 1949) hx hb dL_law_1150 (by decide) ?_
    exact hcont _ _ _ _ ⟨ro, _, _, rfl, hJ, hro, hoo, hR, hO, hg⟩ hS (lv_sub hl [2, 3, 4, 5, 6] rfl)
  have hr0 : r.1 = 0 := (th_nI0 hk3).mp hc9
  have hx9 := hx9 hr0
  have hf1 := hf1 hr0
  refine lv_aload_n hx hb dL_law_1131 rfl (lv_at hl 5 rfl) ?_
  refine lv_iconst (v := nI 0) hx hb dL_law_1132 (by decide) ?_
  refine th_lal0 hx hb hK hO dL_law_1133 ?_
  refine lv_iload hx hb dL_law_1134 (lv_at hl 0 rfl) ?_
  have hkb := hre ▸ (kb_testLeaf S (xs (i + 1)) (xs (i + 2)) (xs (i + 3)) (xs (i + 4)))
  refine lv_if_eq (tgt := 1143) hx hb dL_law_1136 (by decide) (fun hc8 => ?_) (fun hc8 => ?_)
  · have hfe : f1 0 = (0 : Int64) := hf1.trans (by rw [← hx9, hc8]; rfl)
    refine lv_lconst (v := 0) hx hb dL_law_1143 (by decide) ?_
    refine th_lcmp0 hfe hx hb dL_law_1144 ?_
    refine th_zeq (tgt := 1150) hx hb dL_law_1145 (by decide) (by omega) (fun c_2 => ?_) (fun c_2 => by exfalso; omega)
    refine lv_goto (tgt := 1949) hx hb dL_law_1150 (by decide) ?_
    exact hcont _ _ _ _ ⟨ro, _, _, rfl, hJ, hro, hoo, hR, hO, hg⟩ hS (lv_sub hl [2, 3, 4, 5, 6] rfl)
  have hfe : f1 0 = (1 : Int64) := hf1.trans (by rw [(hkb hr0).resolve_left (fun z9 => hc8 (hx9.trans z9))]; rfl)
  refine lv_lconst (v := 1) hx hb dL_law_1139 (by decide) ?_
  refine lv_goto (tgt := 1144) hx hb dL_law_1140 (by decide) ?_
  refine th_lcmp0 hfe hx hb dL_law_1144 ?_
  refine th_zeq (tgt := 1150) hx hb dL_law_1145 (by decide) (by omega) (fun c_3 => ?_) (fun c_3 => by exfalso; omega)
  refine lv_goto (tgt := 1949) hx hb dL_law_1150 (by decide) ?_
  exact hcont _ _ _ _ ⟨ro, _, _, rfl, hJ, hro, hoo, hR, hO, hg⟩ hS (lv_sub hl [2, 3, 4, 5, 6] rfl)

set_option maxRecDepth 100000 in
set_option maxHeartbeats 1600000 in
theorem law_c16 {p : Program} {e : Env} {s : State} {m : MethodId} {below : List Frame} {meth : Method} {c : Code} (l : Launch) (hl0 : l.stackTraces = false) (Y : th_Y) {b L : Nat} {xs : Nat → Int32} (hL : L ≤ 2560) (C0 : lw_At p s m meth c b L xs) (hKN : th_K Y s) (hts : ∀ w ∈ th_G, w.before #[Value.ref b] s = true) (hT : th_T (fun q : Nat => s.heap.size ≤ q) s) (hnc : th_nc s) (g o oo : Nat) (S : th_S) (i : Nat) (hi : i + 5 ≤ L) {H : Heap} {locs : List Loc} {cells slots : Nat} (hcl : cells + 8 ≤ 601024) (hsl : slots + 400 ≤ 7293034) (hI : th_LI Y s.heap.size g o oo S H) (hS : va_S (fun q : Nat => s.heap.size ≤ q) s.heap H locs) {ls : Array Slot} (hl : lv_has ls 7 [(0, .ref b), (1, .ref g), (2, .ref o), (3, .ref oo), (4, .int (nI i))]) (hcont : th_LC p l e s m below meth c b Y g o oo i cells slots) : W p l e room_1 s m #[Value.ref b] below meth c H locs cells slots (lw_Z below #[Value.ref b] s) (F0 m 1153 ls []) := by
  obtain ⟨hx, hb, hr, hml, hown, hts9, hX, hbl, hlk, hgv⟩ := id C0
  obtain ⟨hK, hN⟩ := hKN
  have hown : s.vm.findClass RL = some m.cls := hown
  have hbA : ¬ (fun q : Nat => s.heap.size ≤ q) b := Nat.not_le.mpr hbl
  obtain ⟨ro, thr, f9, rfl, hJ, hro, hoo, hR, hO, hg⟩ := hI
  obtain ⟨ad, Vx, B, dsx, kvx, ks, wy, wz, rfl, hAd, hGI⟩ := hg
  have hAA := th_LAA hS.1 hO.lt (th_RGlt hR) hAd
  have hno : ¬ th_gA ad S.1 H.size oo := fun h9 => (hAA _ h9).2.1 rfl
  have hl : lv_has ls 7 [(0, .ref b), (1, .ref (ad 0)), (2, .ref (ro 0)), (3, .ref oo), (4, .int (nI i))] := hl
  refine lv_aload_n hx hb dL_law_1153 rfl (lv_at hl 1 rfl) ?_
  refine lv_aload_n hx hb dL_law_1154 rfl (lv_at hl 0 rfl) ?_
  refine lv_iload hx hb dL_law_1155 (lv_at hl 4 rfl) ?_
  refine lv_iconst (v := nI 1) hx hb dL_law_1157 (by decide) ?_
  refine lv_iadd hx hb dL_law_1158 ?_
  refine th_ti (nI_add _ _) ?_
  refine th_sld hx hb hX hbl hbA hS (j := i + 1) (by omega) hL dL_law_1159 ?_
  refine lv_aload_n hx hb dL_law_1160 rfl (lv_at hl 0 rfl) ?_
  refine lv_iload hx hb dL_law_1161 (lv_at hl 4 rfl) ?_
  refine lv_iconst (v := nI 2) hx hb dL_law_1163 (by decide) ?_
  refine lv_iadd hx hb dL_law_1164 ?_
  refine th_ti (nI_add _ _) ?_
  refine th_sld hx hb hX hbl hbA hS (j := i + 2) (by omega) hL dL_law_1165 ?_
  refine lv_aload_n hx hb dL_law_1166 rfl (lv_at hl 0 rfl) ?_
  refine lv_iload hx hb dL_law_1167 (lv_at hl 4 rfl) ?_
  refine lv_iconst (v := nI 3) hx hb dL_law_1169 (by decide) ?_
  refine lv_iadd hx hb dL_law_1170 ?_
  refine th_ti (nI_add _ _) ?_
  refine th_sld hx hb hX hbl hbA hS (j := i + 3) (by omega) hL dL_law_1171 ?_
  refine lv_aload_n hx hb dL_law_1172 rfl (lv_at hl 0 rfl) ?_
  refine lv_iload hx hb dL_law_1173 (lv_at hl 4 rfl) ?_
  refine lv_iconst (v := nI 4) hx hb dL_law_1175 (by decide) ?_
  refine lv_iadd hx hb dL_law_1176 ?_
  refine th_ti (nI_add _ _) ?_
  refine th_sld hx hb hX hbl hbA hS (j := i + 4) (by omega) hL dL_law_1177 ?_
  refine lv_aload_n hx hb dL_law_1178 rfl (lv_at hl 3 rfl) ?_
  refine thw_callS hx hb hml hown hts ⟨hK, hN⟩ hl hS ⟨hT, rfl, hnc⟩ (rest := []) (c_L_testGrowth l hl0 Y _ ad S Vx B dsx kvx ks wy wz hGI oo f9 hO hno (xs (i + 1)) (xs (i + 2)) (xs (i + 3)) (xs (i + 4))) tw_3_21 tw_1_0 tw_3_20 (by decide +kernel) (k := 6) tw_3_19 dL_law_1179 rfl rfl (Nat.le_of_ble_eq_true rfl) ⟨(Nat.le_of_ble_eq_true rfl), (Nat.le_of_ble_eq_true rfl)⟩ ⟨hcl, hsl⟩ (fun q9 h9 => h9.elim (fun h8 => (hAA q9 h8).1) (fun e9 => by rw [e9]; exact hoo)) (fun v9 H1 locs hp hsm hS => ?_)
  have hk3 := k3_testGrowth S (xs (i + 1)) (xs (i + 2)) (xs (i + 3)) (xs (i + 4))
  generalize hre : sp_testGrowth S (xs (i + 1)) (xs (i + 2)) (xs (i + 3)) (xs (i + 4)) = r at hp hk3
  obtain ⟨rfl, hg1, f1, hO1, hf1⟩ := hp
  obtain ⟨hR, hg⟩ := th_Lw hAA hro hR hg1 (fun q9 h9 => h9) hsm
  have hO := hO1
  refine lv_istore (lv' := [(5, .int (nI r.1)), (0, .ref b), (1, .ref (ad 0)), (2, .ref (ro 0)), (3, .ref oo), (4, .int (nI i))]) hx hb dL_law_1182 hl (by decide) rfl (fun ls hl => ?_)
  refine lv_aload_n hx hb dL_law_1184 rfl (lv_at hl 3 rfl) ?_
  refine lv_aload_n hx hb dL_law_1185 rfl (lv_at hl 1 rfl) ?_
  refine lv_iload hx hb dL_law_1186 (lv_at hl 5 rfl) ?_
  refine lv_iconst (v := nI 1) hx hb dL_law_1188 (by decide) ?_
  refine lv_iadd hx hb dL_law_1189 ?_
  refine th_ti (nI_add _ _) ?_
  refine th_sld hx hb hX hbl hbA hS (j := i + 1) (by omega) hL dL_law_1190 ?_
  refine lv_aload_n hx hb dL_law_1191 rfl (lv_at hl 1 rfl) ?_
  refine lv_iload hx hb dL_law_1192 (lv_at hl 5 rfl) ?_
  refine lv_iconst (v := nI 2) hx hb dL_law_1194 (by decide) ?_
  refine lv_iadd hx hb dL_law_1195 ?_
  refine th_ti (nI_add _ _) ?_
  refine th_sld hx hb hX hbl hbA hS (j := i + 2) (by omega) hL dL_law_1196 ?_
  refine lv_aload_n hx hb dL_law_1197 rfl (lv_at hl 1 rfl) ?_
  refine lv_iload hx hb dL_law_1198 (lv_at hl 5 rfl) ?_
  refine lv_iconst (v := nI 3) hx hb dL_law_1200 (by decide) ?_
  refine lv_iadd hx hb dL_law_1201 ?_
  refine th_ti (nI_add _ _) ?_
  refine th_sld hx hb hX hbl hbA hS (j := i + 3) (by omega) hL dL_law_1202 ?_
  refine lv_aload_n hx hb dL_law_1203 rfl (lv_at hl 1 rfl) ?_
  refine lv_iload hx hb dL_law_1204 (lv_at hl 5 rfl) ?_
  refine lv_iconst (v := nI 4) hx hb dL_law_1206 (by decide) ?_
  refine lv_iadd hx hb dL_law_1207 ?_
  refine th_ti (nI_add _ _) ?_
  refine th_sld hx hb hX hbl hbA hS (j := i + 4) (by omega) hL dL_law_1208 ?_
  obtain ⟨stp, efr, esz, etr, val, siz, tre, spa, pro, bes, isr, key, lev, kvi, ksz, krt, ala, fol, cts, hPr, hvr⟩ := id hR
  obtain ⟨fs9, hB9⟩ := th_RG0 hR
  refine th_callV hx hb hml hown hts ⟨hK, hN⟩ hl hS hB9 rfl (rest := []) (c_X6_testGrowth l Y _ ro hJ S _ stp efr esz etr val siz tre spa pro bes isr key lev kvi ksz krt ala fol cts hPr hvr (xs (i + 1)) (xs (i + 2)) (xs (i + 3)) (xs (i + 4))) ok_X6_testGrowth tw_4_119 dL_law_1209 rfl rfl (Nat.le_of_ble_eq_true rfl) ⟨(Nat.le_of_ble_eq_true rfl), (Nat.le_of_ble_eq_true rfl)⟩ ⟨hcl, hsl⟩ (fun q9 h9 => by obtain ⟨j9, hj9, e9⟩ := th_inro h9; rw [← e9]; exact (hro j9 hj9).1) (th_ki (fun x9 H2 locs hp hsm2 hS => ?_))
  rw [hre] at hp
  obtain ⟨hx9, hR⟩ := hp
  obtain ⟨hO, hg⟩ := th_Lm hro hO hg hsm2
  refine lv_istore (lv' := [(6, .int x9), (5, .int (nI r.1)), (0, .ref b), (1, .ref (ad 0)), (2, .ref (ro 0)), (3, .ref oo), (4, .int (nI i))]) hx hb dL_law_1212 hl (by decide) rfl (fun ls hl => ?_)
  refine lv_aload_n hx hb dL_law_1214 rfl (lv_at hl 4 rfl) ?_
  obtain ⟨fs9, hB9⟩ := th_RG0 hR
  refine th_callV hx hb hml hown hts ⟨hK, hN⟩ hl hS hB9 rfl (rest := []) (th_Lthr l hR) ok_X6_thrown tw_3_222 dL_law_1215 rfl rfl (Nat.le_of_ble_eq_true rfl) ⟨(Nat.le_of_ble_eq_true rfl), (Nat.le_of_ble_eq_true rfl)⟩ ⟨hcl, hsl⟩ (fun _ h9 => h9.elim) (th_kpi (fun locs hS => ?_))
  refine lv_iload hx hb dL_law_1218 (lv_at hl 1 rfl) ?_
  refine lv_icmp_eq (tgt := 1225) hx hb dL_law_1220 (by decide) (fun c_1 => ?_) (fun c_1 => by exfalso; exact c_1 rfl)
  refine lv_iload hx hb dL_law_1225 (lv_at hl 1 rfl) ?_
  refine lv_if_ne (tgt := 1249) hx hb dL_law_1227 (by decide) (fun hc9 => ?_) (fun hc9 => ?_)
  · skip
    refine lv_goto (tgt := 1949) hx hb dL_law_1249 (by decide) ?_
    exact hcont _ _ _ _ ⟨ro, _, _, rfl, hJ, hro, hoo, hR, hO, hg⟩ hS (lv_sub hl [2, 3, 4, 5, 6] rfl)
  have hr0 : r.1 = 0 := (th_nI0 hk3).mp hc9
  have hx9 := hx9 hr0
  have hf1 := hf1 hr0
  refine lv_aload_n hx hb dL_law_1230 rfl (lv_at hl 5 rfl) ?_
  refine lv_iconst (v := nI 0) hx hb dL_law_1231 (by decide) ?_
  refine th_lal0 hx hb hK hO dL_law_1232 ?_
  refine lv_iload hx hb dL_law_1233 (lv_at hl 0 rfl) ?_
  have hkb := hre ▸ (kb_testGrowth S (xs (i + 1)) (xs (i + 2)) (xs (i + 3)) (xs (i + 4)))
  refine lv_if_eq (tgt := 1242) hx hb dL_law_1235 (by decide) (fun hc8 => ?_) (fun hc8 => ?_)
  · have hfe : f1 0 = (0 : Int64) := hf1.trans (by rw [← hx9, hc8]; rfl)
    refine lv_lconst (v := 0) hx hb dL_law_1242 (by decide) ?_
    refine th_lcmp0 hfe hx hb dL_law_1243 ?_
    refine th_zeq (tgt := 1249) hx hb dL_law_1244 (by decide) (by omega) (fun c_2 => ?_) (fun c_2 => by exfalso; omega)
    refine lv_goto (tgt := 1949) hx hb dL_law_1249 (by decide) ?_
    exact hcont _ _ _ _ ⟨ro, _, _, rfl, hJ, hro, hoo, hR, hO, hg⟩ hS (lv_sub hl [2, 3, 4, 5, 6] rfl)
  have hfe : f1 0 = (1 : Int64) := hf1.trans (by rw [(hkb hr0).resolve_left (fun z9 => hc8 (hx9.trans z9))]; rfl)
  refine lv_lconst (v := 1) hx hb dL_law_1238 (by decide) ?_
  refine lv_goto (tgt := 1243) hx hb dL_law_1239 (by decide) ?_
  refine th_lcmp0 hfe hx hb dL_law_1243 ?_
  refine th_zeq (tgt := 1249) hx hb dL_law_1244 (by decide) (by omega) (fun c_3 => ?_) (fun c_3 => by exfalso; omega)
  refine lv_goto (tgt := 1949) hx hb dL_law_1249 (by decide) ?_
  exact hcont _ _ _ _ ⟨ro, _, _, rfl, hJ, hro, hoo, hR, hO, hg⟩ hS (lv_sub hl [2, 3, 4, 5, 6] rfl)

set_option maxRecDepth 100000 in
set_option maxHeartbeats 1600000 in
theorem law_c17 {p : Program} {e : Env} {s : State} {m : MethodId} {below : List Frame} {meth : Method} {c : Code} (l : Launch) (hl0 : l.stackTraces = false) (Y : th_Y) {b L : Nat} {xs : Nat → Int32} (hL : L ≤ 2560) (C0 : lw_At p s m meth c b L xs) (hKN : th_K Y s) (hts : ∀ w ∈ th_G, w.before #[Value.ref b] s = true) (hT : th_T (fun q : Nat => s.heap.size ≤ q) s) (hnc : th_nc s) (g o oo : Nat) (S : th_S) (i : Nat) (hi : i + 5 ≤ L) {H : Heap} {locs : List Loc} {cells slots : Nat} (hcl : cells + 8 ≤ 601024) (hsl : slots + 400 ≤ 7293034) (hI : th_LI Y s.heap.size g o oo S H) (hS : va_S (fun q : Nat => s.heap.size ≤ q) s.heap H locs) {ls : Array Slot} (hl : lv_has ls 7 [(0, .ref b), (1, .ref g), (2, .ref o), (3, .ref oo), (4, .int (nI i))]) (hcont : th_LC p l e s m below meth c b Y g o oo i cells slots) : W p l e room_1 s m #[Value.ref b] below meth c H locs cells slots (lw_Z below #[Value.ref b] s) (F0 m 1252 ls []) := by
  obtain ⟨hx, hb, hr, hml, hown, hts9, hX, hbl, hlk, hgv⟩ := id C0
  obtain ⟨hK, hN⟩ := hKN
  have hown : s.vm.findClass RL = some m.cls := hown
  have hbA : ¬ (fun q : Nat => s.heap.size ≤ q) b := Nat.not_le.mpr hbl
  obtain ⟨ro, thr, f9, rfl, hJ, hro, hoo, hR, hO, hg⟩ := hI
  obtain ⟨ad, Vx, B, dsx, kvx, ks, wy, wz, rfl, hAd, hGI⟩ := hg
  have hAA := th_LAA hS.1 hO.lt (th_RGlt hR) hAd
  have hno : ¬ th_gA ad S.1 H.size oo := fun h9 => (hAA _ h9).2.1 rfl
  have hl : lv_has ls 7 [(0, .ref b), (1, .ref (ad 0)), (2, .ref (ro 0)), (3, .ref oo), (4, .int (nI i))] := hl
  refine lv_aload_n hx hb dL_law_1252 rfl (lv_at hl 1 rfl) ?_
  refine lv_aload_n hx hb dL_law_1253 rfl (lv_at hl 0 rfl) ?_
  refine lv_iload hx hb dL_law_1254 (lv_at hl 4 rfl) ?_
  refine lv_iconst (v := nI 1) hx hb dL_law_1256 (by decide) ?_
  refine lv_iadd hx hb dL_law_1257 ?_
  refine th_ti (nI_add _ _) ?_
  refine th_sld hx hb hX hbl hbA hS (j := i + 1) (by omega) hL dL_law_1258 ?_
  refine lv_aload_n hx hb dL_law_1259 rfl (lv_at hl 0 rfl) ?_
  refine lv_iload hx hb dL_law_1260 (lv_at hl 4 rfl) ?_
  refine lv_iconst (v := nI 2) hx hb dL_law_1262 (by decide) ?_
  refine lv_iadd hx hb dL_law_1263 ?_
  refine th_ti (nI_add _ _) ?_
  refine th_sld hx hb hX hbl hbA hS (j := i + 2) (by omega) hL dL_law_1264 ?_
  refine lv_aload_n hx hb dL_law_1265 rfl (lv_at hl 3 rfl) ?_
  refine thw_callS hx hb hml hown hts ⟨hK, hN⟩ hl hS ⟨hT, rfl, hnc⟩ (rest := []) (c_L_testKey l hl0 Y _ ad S Vx B dsx kvx ks wy wz hGI oo f9 hO hno (xs (i + 1)) (xs (i + 2))) tw_3_33 tw_1_0 tw_3_32 (by decide +kernel) (k := 4) tw_3_31 dL_law_1266 rfl rfl (Nat.le_of_ble_eq_true rfl) ⟨(Nat.le_of_ble_eq_true rfl), (Nat.le_of_ble_eq_true rfl)⟩ ⟨hcl, hsl⟩ (fun q9 h9 => h9.elim (fun h8 => (hAA q9 h8).1) (fun e9 => by rw [e9]; exact hoo)) (fun v9 H1 locs hp hsm hS => ?_)
  have hk3 := k3_testKey S (xs (i + 1)) (xs (i + 2))
  generalize hre : sp_testKey S (xs (i + 1)) (xs (i + 2)) = r at hp hk3
  obtain ⟨rfl, hg1, f1, hO1, hf1⟩ := hp
  obtain ⟨hR, hg⟩ := th_Lw hAA hro hR hg1 (fun q9 h9 => h9) hsm
  have hO := hO1
  refine lv_istore (lv' := [(5, .int (nI r.1)), (0, .ref b), (1, .ref (ad 0)), (2, .ref (ro 0)), (3, .ref oo), (4, .int (nI i))]) hx hb dL_law_1269 hl (by decide) rfl (fun ls hl => ?_)
  refine lv_aload_n hx hb dL_law_1271 rfl (lv_at hl 3 rfl) ?_
  refine lv_aload_n hx hb dL_law_1272 rfl (lv_at hl 1 rfl) ?_
  refine lv_iload hx hb dL_law_1273 (lv_at hl 5 rfl) ?_
  refine lv_iconst (v := nI 1) hx hb dL_law_1275 (by decide) ?_
  refine lv_iadd hx hb dL_law_1276 ?_
  refine th_ti (nI_add _ _) ?_
  refine th_sld hx hb hX hbl hbA hS (j := i + 1) (by omega) hL dL_law_1277 ?_
  refine lv_aload_n hx hb dL_law_1278 rfl (lv_at hl 1 rfl) ?_
  refine lv_iload hx hb dL_law_1279 (lv_at hl 5 rfl) ?_
  refine lv_iconst (v := nI 2) hx hb dL_law_1281 (by decide) ?_
  refine lv_iadd hx hb dL_law_1282 ?_
  refine th_ti (nI_add _ _) ?_
  refine th_sld hx hb hX hbl hbA hS (j := i + 2) (by omega) hL dL_law_1283 ?_
  obtain ⟨stp, efr, esz, etr, val, siz, tre, spa, pro, bes, isr, key, lev, kvi, ksz, krt, ala, fol, cts, hPr, hvr⟩ := id hR
  obtain ⟨fs9, hB9⟩ := th_RG0 hR
  refine th_callV hx hb hml hown hts ⟨hK, hN⟩ hl hS hB9 rfl (rest := []) (c_X6_testKey l Y _ ro hJ S _ stp efr esz etr val siz tre spa pro bes isr key lev kvi ksz krt ala fol cts hPr hvr (xs (i + 1)) (xs (i + 2))) ok_X6_testKey tw_4_123 dL_law_1284 rfl rfl (Nat.le_of_ble_eq_true rfl) ⟨(Nat.le_of_ble_eq_true rfl), (Nat.le_of_ble_eq_true rfl)⟩ ⟨hcl, hsl⟩ (fun q9 h9 => by obtain ⟨j9, hj9, e9⟩ := th_inro h9; rw [← e9]; exact (hro j9 hj9).1) (th_ki (fun x9 H2 locs hp hsm2 hS => ?_))
  rw [hre] at hp
  obtain ⟨hx9, hR⟩ := hp
  obtain ⟨hO, hg⟩ := th_Lm hro hO hg hsm2
  refine lv_istore (lv' := [(6, .int x9), (5, .int (nI r.1)), (0, .ref b), (1, .ref (ad 0)), (2, .ref (ro 0)), (3, .ref oo), (4, .int (nI i))]) hx hb dL_law_1287 hl (by decide) rfl (fun ls hl => ?_)
  refine lv_aload_n hx hb dL_law_1289 rfl (lv_at hl 4 rfl) ?_
  obtain ⟨fs9, hB9⟩ := th_RG0 hR
  refine th_callV hx hb hml hown hts ⟨hK, hN⟩ hl hS hB9 rfl (rest := []) (th_Lthr l hR) ok_X6_thrown tw_3_222 dL_law_1290 rfl rfl (Nat.le_of_ble_eq_true rfl) ⟨(Nat.le_of_ble_eq_true rfl), (Nat.le_of_ble_eq_true rfl)⟩ ⟨hcl, hsl⟩ (fun _ h9 => h9.elim) (th_kpi (fun locs hS => ?_))
  refine lv_iload hx hb dL_law_1293 (lv_at hl 1 rfl) ?_
  refine lv_icmp_eq (tgt := 1300) hx hb dL_law_1295 (by decide) (fun c_1 => ?_) (fun c_1 => by exfalso; exact c_1 rfl)
  refine lv_iload hx hb dL_law_1300 (lv_at hl 1 rfl) ?_
  refine lv_if_ne (tgt := 1324) hx hb dL_law_1302 (by decide) (fun hc9 => ?_) (fun hc9 => ?_)
  · skip
    refine lv_goto (tgt := 1949) hx hb dL_law_1324 (by decide) ?_
    exact hcont _ _ _ _ ⟨ro, _, _, rfl, hJ, hro, hoo, hR, hO, hg⟩ hS (lv_sub hl [2, 3, 4, 5, 6] rfl)
  have hr0 : r.1 = 0 := (th_nI0 hk3).mp hc9
  have hx9 := hx9 hr0
  have hf1 := hf1 hr0
  refine lv_aload_n hx hb dL_law_1305 rfl (lv_at hl 5 rfl) ?_
  refine lv_iconst (v := nI 0) hx hb dL_law_1306 (by decide) ?_
  refine th_lal0 hx hb hK hO dL_law_1307 ?_
  refine lv_iload hx hb dL_law_1308 (lv_at hl 0 rfl) ?_
  have hkb := hre ▸ (kb_testKey S (xs (i + 1)) (xs (i + 2)))
  refine lv_if_eq (tgt := 1317) hx hb dL_law_1310 (by decide) (fun hc8 => ?_) (fun hc8 => ?_)
  · have hfe : f1 0 = (0 : Int64) := hf1.trans (by rw [← hx9, hc8]; rfl)
    refine lv_lconst (v := 0) hx hb dL_law_1317 (by decide) ?_
    refine th_lcmp0 hfe hx hb dL_law_1318 ?_
    refine th_zeq (tgt := 1324) hx hb dL_law_1319 (by decide) (by omega) (fun c_2 => ?_) (fun c_2 => by exfalso; omega)
    refine lv_goto (tgt := 1949) hx hb dL_law_1324 (by decide) ?_
    exact hcont _ _ _ _ ⟨ro, _, _, rfl, hJ, hro, hoo, hR, hO, hg⟩ hS (lv_sub hl [2, 3, 4, 5, 6] rfl)
  have hfe : f1 0 = (1 : Int64) := hf1.trans (by rw [(hkb hr0).resolve_left (fun z9 => hc8 (hx9.trans z9))]; rfl)
  refine lv_lconst (v := 1) hx hb dL_law_1313 (by decide) ?_
  refine lv_goto (tgt := 1318) hx hb dL_law_1314 (by decide) ?_
  refine th_lcmp0 hfe hx hb dL_law_1318 ?_
  refine th_zeq (tgt := 1324) hx hb dL_law_1319 (by decide) (by omega) (fun c_3 => ?_) (fun c_3 => by exfalso; omega)
  refine lv_goto (tgt := 1949) hx hb dL_law_1324 (by decide) ?_
  exact hcont _ _ _ _ ⟨ro, _, _, rfl, hJ, hro, hoo, hR, hO, hg⟩ hS (lv_sub hl [2, 3, 4, 5, 6] rfl)

set_option maxRecDepth 100000 in
set_option maxHeartbeats 1600000 in
theorem law_c18 {p : Program} {e : Env} {s : State} {m : MethodId} {below : List Frame} {meth : Method} {c : Code} (l : Launch) (hl0 : l.stackTraces = false) (Y : th_Y) {b L : Nat} {xs : Nat → Int32} (hL : L ≤ 2560) (C0 : lw_At p s m meth c b L xs) (hKN : th_K Y s) (hts : ∀ w ∈ th_G, w.before #[Value.ref b] s = true) (hT : th_T (fun q : Nat => s.heap.size ≤ q) s) (hnc : th_nc s) (g o oo : Nat) (S : th_S) (i : Nat) (hi : i + 5 ≤ L) {H : Heap} {locs : List Loc} {cells slots : Nat} (hcl : cells + 8 ≤ 601024) (hsl : slots + 400 ≤ 7293034) (hI : th_LI Y s.heap.size g o oo S H) (hS : va_S (fun q : Nat => s.heap.size ≤ q) s.heap H locs) {ls : Array Slot} (hl : lv_has ls 7 [(0, .ref b), (1, .ref g), (2, .ref o), (3, .ref oo), (4, .int (nI i))]) (hcont : th_LC p l e s m below meth c b Y g o oo i cells slots) : W p l e room_1 s m #[Value.ref b] below meth c H locs cells slots (lw_Z below #[Value.ref b] s) (F0 m 1327 ls []) := by
  obtain ⟨hx, hb, hr, hml, hown, hts9, hX, hbl, hlk, hgv⟩ := id C0
  obtain ⟨hK, hN⟩ := hKN
  have hown : s.vm.findClass RL = some m.cls := hown
  have hbA : ¬ (fun q : Nat => s.heap.size ≤ q) b := Nat.not_le.mpr hbl
  obtain ⟨ro, thr, f9, rfl, hJ, hro, hoo, hR, hO, hg⟩ := hI
  obtain ⟨ad, Vx, B, dsx, kvx, ks, wy, wz, rfl, hAd, hGI⟩ := hg
  have hAA := th_LAA hS.1 hO.lt (th_RGlt hR) hAd
  have hno : ¬ th_gA ad S.1 H.size oo := fun h9 => (hAA _ h9).2.1 rfl
  have hl : lv_has ls 7 [(0, .ref b), (1, .ref (ad 0)), (2, .ref (ro 0)), (3, .ref oo), (4, .int (nI i))] := hl
  refine lv_aload_n hx hb dL_law_1327 rfl (lv_at hl 1 rfl) ?_
  refine lv_aload_n hx hb dL_law_1328 rfl (lv_at hl 0 rfl) ?_
  refine lv_iload hx hb dL_law_1329 (lv_at hl 4 rfl) ?_
  refine lv_iconst (v := nI 1) hx hb dL_law_1331 (by decide) ?_
  refine lv_iadd hx hb dL_law_1332 ?_
  refine th_ti (nI_add _ _) ?_
  refine th_sld hx hb hX hbl hbA hS (j := i + 1) (by omega) hL dL_law_1333 ?_
  refine lv_aload_n hx hb dL_law_1334 rfl (lv_at hl 0 rfl) ?_
  refine lv_iload hx hb dL_law_1335 (lv_at hl 4 rfl) ?_
  refine lv_iconst (v := nI 2) hx hb dL_law_1337 (by decide) ?_
  refine lv_iadd hx hb dL_law_1338 ?_
  refine th_ti (nI_add _ _) ?_
  refine th_sld hx hb hX hbl hbA hS (j := i + 2) (by omega) hL dL_law_1339 ?_
  refine lv_aload_n hx hb dL_law_1340 rfl (lv_at hl 3 rfl) ?_
  refine thw_callS hx hb hml hown hts ⟨hK, hN⟩ hl hS ⟨hT, rfl, hnc⟩ (rest := []) (c_L_put l hl0 Y _ ad S Vx B dsx kvx ks wy wz hGI oo f9 hO hno (xs (i + 1)) (xs (i + 2))) tw_3_52 tw_1_0 tw_3_51 (by decide +kernel) (k := 4) tw_3_50 dL_law_1341 rfl rfl (Nat.le_of_ble_eq_true rfl) ⟨(Nat.le_of_ble_eq_true rfl), (Nat.le_of_ble_eq_true rfl)⟩ ⟨hcl, hsl⟩ (fun q9 h9 => h9.elim (fun h8 => (hAA q9 h8).1) (fun e9 => by rw [e9]; exact hoo)) (fun v9 H1 locs hp hsm hS => ?_)
  have hk3 := k3_put S (xs (i + 1)) (xs (i + 2))
  generalize hre : sp_put S (xs (i + 1)) (xs (i + 2)) = r at hp hk3
  obtain ⟨rfl, hg1, f1, hO1, hf1⟩ := hp
  obtain ⟨hR, hg⟩ := th_Lw hAA hro hR hg1 (fun q9 h9 => h9) hsm
  have hO := hO1
  refine lv_istore (lv' := [(5, .int (nI r.1)), (0, .ref b), (1, .ref (ad 0)), (2, .ref (ro 0)), (3, .ref oo), (4, .int (nI i))]) hx hb dL_law_1344 hl (by decide) rfl (fun ls hl => ?_)
  refine lv_aload_n hx hb dL_law_1346 rfl (lv_at hl 3 rfl) ?_
  refine lv_aload_n hx hb dL_law_1347 rfl (lv_at hl 1 rfl) ?_
  refine lv_iload hx hb dL_law_1348 (lv_at hl 5 rfl) ?_
  refine lv_iconst (v := nI 1) hx hb dL_law_1350 (by decide) ?_
  refine lv_iadd hx hb dL_law_1351 ?_
  refine th_ti (nI_add _ _) ?_
  refine th_sld hx hb hX hbl hbA hS (j := i + 1) (by omega) hL dL_law_1352 ?_
  refine lv_aload_n hx hb dL_law_1353 rfl (lv_at hl 1 rfl) ?_
  refine lv_iload hx hb dL_law_1354 (lv_at hl 5 rfl) ?_
  refine lv_iconst (v := nI 2) hx hb dL_law_1356 (by decide) ?_
  refine lv_iadd hx hb dL_law_1357 ?_
  refine th_ti (nI_add _ _) ?_
  refine th_sld hx hb hX hbl hbA hS (j := i + 2) (by omega) hL dL_law_1358 ?_
  obtain ⟨stp, efr, esz, etr, val, siz, tre, spa, pro, bes, isr, key, lev, kvi, ksz, krt, ala, fol, cts, hPr, hvr⟩ := id hR
  obtain ⟨fs9, hB9⟩ := th_RG0 hR
  refine th_callV hx hb hml hown hts ⟨hK, hN⟩ hl hS hB9 rfl (rest := []) (c_X6_put l Y _ ro hJ S _ stp efr esz etr val siz tre spa pro bes isr key lev kvi ksz krt ala fol cts hPr hvr (xs (i + 1)) (xs (i + 2))) ok_X6_put tw_4_127 dL_law_1359 rfl rfl (Nat.le_of_ble_eq_true rfl) ⟨(Nat.le_of_ble_eq_true rfl), (Nat.le_of_ble_eq_true rfl)⟩ ⟨hcl, hsl⟩ (fun q9 h9 => by obtain ⟨j9, hj9, e9⟩ := th_inro h9; rw [← e9]; exact (hro j9 hj9).1) (th_ki (fun x9 H2 locs hp hsm2 hS => ?_))
  rw [hre] at hp
  obtain ⟨hx9, hR⟩ := hp
  obtain ⟨hO, hg⟩ := th_Lm hro hO hg hsm2
  refine lv_istore (lv' := [(6, .int x9), (5, .int (nI r.1)), (0, .ref b), (1, .ref (ad 0)), (2, .ref (ro 0)), (3, .ref oo), (4, .int (nI i))]) hx hb dL_law_1362 hl (by decide) rfl (fun ls hl => ?_)
  refine lv_aload_n hx hb dL_law_1364 rfl (lv_at hl 4 rfl) ?_
  obtain ⟨fs9, hB9⟩ := th_RG0 hR
  refine th_callV hx hb hml hown hts ⟨hK, hN⟩ hl hS hB9 rfl (rest := []) (th_Lthr l hR) ok_X6_thrown tw_3_222 dL_law_1365 rfl rfl (Nat.le_of_ble_eq_true rfl) ⟨(Nat.le_of_ble_eq_true rfl), (Nat.le_of_ble_eq_true rfl)⟩ ⟨hcl, hsl⟩ (fun _ h9 => h9.elim) (th_kpi (fun locs hS => ?_))
  refine lv_iload hx hb dL_law_1368 (lv_at hl 1 rfl) ?_
  refine lv_icmp_eq (tgt := 1375) hx hb dL_law_1370 (by decide) (fun c_1 => ?_) (fun c_1 => by exfalso; exact c_1 rfl)
  refine lv_iload hx hb dL_law_1375 (lv_at hl 1 rfl) ?_
  refine lv_if_ne (tgt := 1392) hx hb dL_law_1377 (by decide) (fun hc9 => ?_) (fun hc9 => ?_)
  · skip
    refine lv_goto (tgt := 1949) hx hb dL_law_1392 (by decide) ?_
    exact hcont _ _ _ _ ⟨ro, _, _, rfl, hJ, hro, hoo, hR, hO, hg⟩ hS (lv_sub hl [2, 3, 4, 5, 6] rfl)
  have hr0 : r.1 = 0 := (th_nI0 hk3).mp hc9
  have hx9 := hx9 hr0
  have hf1 := hf1 hr0
  refine lv_aload_n hx hb dL_law_1380 rfl (lv_at hl 5 rfl) ?_
  refine lv_iconst (v := nI 0) hx hb dL_law_1381 (by decide) ?_
  refine th_lal0 hx hb hK hO dL_law_1382 ?_
  refine lv_iload hx hb dL_law_1383 (lv_at hl 0 rfl) ?_
  refine lv_i2l hx hb dL_law_1385 rfl ?_
  refine th_lcmp0 (hf1.trans (congrArg Int32.toInt64 hx9.symm)) hx hb dL_law_1386 ?_
  refine th_zeq (tgt := 1392) hx hb dL_law_1387 (by decide) (by omega) (fun c_2 => ?_) (fun c_2 => by exfalso; omega)
  refine lv_goto (tgt := 1949) hx hb dL_law_1392 (by decide) ?_
  exact hcont _ _ _ _ ⟨ro, _, _, rfl, hJ, hro, hoo, hR, hO, hg⟩ hS (lv_sub hl [2, 3, 4, 5, 6] rfl)

set_option maxRecDepth 100000 in
set_option maxHeartbeats 1600000 in
theorem law_c19 {p : Program} {e : Env} {s : State} {m : MethodId} {below : List Frame} {meth : Method} {c : Code} (l : Launch) (hl0 : l.stackTraces = false) (Y : th_Y) {b L : Nat} {xs : Nat → Int32} (hL : L ≤ 2560) (C0 : lw_At p s m meth c b L xs) (hKN : th_K Y s) (hts : ∀ w ∈ th_G, w.before #[Value.ref b] s = true) (hT : th_T (fun q : Nat => s.heap.size ≤ q) s) (hnc : th_nc s) (g o oo : Nat) (S : th_S) (i : Nat) (hi : i + 5 ≤ L) {H : Heap} {locs : List Loc} {cells slots : Nat} (hcl : cells + 8 ≤ 601024) (hsl : slots + 400 ≤ 7293034) (hI : th_LI Y s.heap.size g o oo S H) (hS : va_S (fun q : Nat => s.heap.size ≤ q) s.heap H locs) {ls : Array Slot} (hl : lv_has ls 7 [(0, .ref b), (1, .ref g), (2, .ref o), (3, .ref oo), (4, .int (nI i))]) (hcont : th_LC p l e s m below meth c b Y g o oo i cells slots) : W p l e room_1 s m #[Value.ref b] below meth c H locs cells slots (lw_Z below #[Value.ref b] s) (F0 m 1395 ls []) := by
  obtain ⟨hx, hb, hr, hml, hown, hts9, hX, hbl, hlk, hgv⟩ := id C0
  obtain ⟨hK, hN⟩ := hKN
  have hown : s.vm.findClass RL = some m.cls := hown
  have hbA : ¬ (fun q : Nat => s.heap.size ≤ q) b := Nat.not_le.mpr hbl
  obtain ⟨ro, thr, f9, rfl, hJ, hro, hoo, hR, hO, hg⟩ := hI
  obtain ⟨ad, Vx, B, dsx, kvx, ks, wy, wz, rfl, hAd, hGI⟩ := hg
  have hAA := th_LAA hS.1 hO.lt (th_RGlt hR) hAd
  have hno : ¬ th_gA ad S.1 H.size oo := fun h9 => (hAA _ h9).2.1 rfl
  have hl : lv_has ls 7 [(0, .ref b), (1, .ref (ad 0)), (2, .ref (ro 0)), (3, .ref oo), (4, .int (nI i))] := hl
  refine lv_aload_n hx hb dL_law_1395 rfl (lv_at hl 1 rfl) ?_
  refine lv_aload_n hx hb dL_law_1396 rfl (lv_at hl 0 rfl) ?_
  refine lv_iload hx hb dL_law_1397 (lv_at hl 4 rfl) ?_
  refine lv_iconst (v := nI 1) hx hb dL_law_1399 (by decide) ?_
  refine lv_iadd hx hb dL_law_1400 ?_
  refine th_ti (nI_add _ _) ?_
  refine th_sld hx hb hX hbl hbA hS (j := i + 1) (by omega) hL dL_law_1401 ?_
  refine lv_aload_n hx hb dL_law_1402 rfl (lv_at hl 3 rfl) ?_
  refine thw_callS hx hb hml hown hts ⟨hK, hN⟩ hl hS ⟨hT, rfl, hnc⟩ (rest := []) (c_L_remove l hl0 Y _ ad S Vx B dsx kvx ks wy wz hGI oo f9 hO hno (xs (i + 1))) tw_3_65 tw_1_0 tw_3_64 (by decide +kernel) (k := 3) tw_3_63 dL_law_1403 rfl rfl (Nat.le_of_ble_eq_true rfl) ⟨(Nat.le_of_ble_eq_true rfl), (Nat.le_of_ble_eq_true rfl)⟩ ⟨hcl, hsl⟩ (fun q9 h9 => h9.elim (fun h8 => (hAA q9 h8).1) (fun e9 => by rw [e9]; exact hoo)) (fun v9 H1 locs hp hsm hS => ?_)
  have hk3 := k3_remove S (xs (i + 1))
  generalize hre : sp_remove S (xs (i + 1)) = r at hp hk3
  obtain ⟨rfl, hg1, f1, hO1, hf1⟩ := hp
  obtain ⟨hR, hg⟩ := th_Lw hAA hro hR hg1 (fun q9 h9 => h9) hsm
  have hO := hO1
  refine lv_istore (lv' := [(5, .int (nI r.1)), (0, .ref b), (1, .ref (ad 0)), (2, .ref (ro 0)), (3, .ref oo), (4, .int (nI i))]) hx hb dL_law_1406 hl (by decide) rfl (fun ls hl => ?_)
  refine lv_aload_n hx hb dL_law_1408 rfl (lv_at hl 3 rfl) ?_
  refine lv_aload_n hx hb dL_law_1409 rfl (lv_at hl 1 rfl) ?_
  refine lv_iload hx hb dL_law_1410 (lv_at hl 5 rfl) ?_
  refine lv_iconst (v := nI 1) hx hb dL_law_1412 (by decide) ?_
  refine lv_iadd hx hb dL_law_1413 ?_
  refine th_ti (nI_add _ _) ?_
  refine th_sld hx hb hX hbl hbA hS (j := i + 1) (by omega) hL dL_law_1414 ?_
  obtain ⟨stp, efr, esz, etr, val, siz, tre, spa, pro, bes, isr, key, lev, kvi, ksz, krt, ala, fol, cts, hPr, hvr⟩ := id hR
  obtain ⟨fs9, hB9⟩ := th_RG0 hR
  refine th_callV hx hb hml hown hts ⟨hK, hN⟩ hl hS hB9 rfl (rest := []) (c_X6_remove l Y _ ro hJ S _ stp efr esz etr val siz tre spa pro bes isr key lev kvi ksz krt ala fol cts hPr hvr (xs (i + 1))) ok_X6_remove tw_4_131 dL_law_1415 rfl rfl (Nat.le_of_ble_eq_true rfl) ⟨(Nat.le_of_ble_eq_true rfl), (Nat.le_of_ble_eq_true rfl)⟩ ⟨hcl, hsl⟩ (fun q9 h9 => by obtain ⟨j9, hj9, e9⟩ := th_inro h9; rw [← e9]; exact (hro j9 hj9).1) (th_ki (fun x9 H2 locs hp hsm2 hS => ?_))
  rw [hre] at hp
  obtain ⟨hx9, hR⟩ := hp
  obtain ⟨hO, hg⟩ := th_Lm hro hO hg hsm2
  refine lv_istore (lv' := [(6, .int x9), (5, .int (nI r.1)), (0, .ref b), (1, .ref (ad 0)), (2, .ref (ro 0)), (3, .ref oo), (4, .int (nI i))]) hx hb dL_law_1418 hl (by decide) rfl (fun ls hl => ?_)
  refine lv_aload_n hx hb dL_law_1420 rfl (lv_at hl 4 rfl) ?_
  obtain ⟨fs9, hB9⟩ := th_RG0 hR
  refine th_callV hx hb hml hown hts ⟨hK, hN⟩ hl hS hB9 rfl (rest := []) (th_Lthr l hR) ok_X6_thrown tw_3_222 dL_law_1421 rfl rfl (Nat.le_of_ble_eq_true rfl) ⟨(Nat.le_of_ble_eq_true rfl), (Nat.le_of_ble_eq_true rfl)⟩ ⟨hcl, hsl⟩ (fun _ h9 => h9.elim) (th_kpi (fun locs hS => ?_))
  refine lv_iload hx hb dL_law_1424 (lv_at hl 1 rfl) ?_
  refine lv_icmp_eq (tgt := 1431) hx hb dL_law_1426 (by decide) (fun c_1 => ?_) (fun c_1 => by exfalso; exact c_1 rfl)
  refine lv_iload hx hb dL_law_1431 (lv_at hl 1 rfl) ?_
  refine lv_if_ne (tgt := 1448) hx hb dL_law_1433 (by decide) (fun hc9 => ?_) (fun hc9 => ?_)
  · skip
    refine lv_goto (tgt := 1949) hx hb dL_law_1448 (by decide) ?_
    exact hcont _ _ _ _ ⟨ro, _, _, rfl, hJ, hro, hoo, hR, hO, hg⟩ hS (lv_sub hl [2, 3, 4, 5, 6] rfl)
  have hr0 : r.1 = 0 := (th_nI0 hk3).mp hc9
  have hx9 := hx9 hr0
  have hf1 := hf1 hr0
  refine lv_aload_n hx hb dL_law_1436 rfl (lv_at hl 5 rfl) ?_
  refine lv_iconst (v := nI 0) hx hb dL_law_1437 (by decide) ?_
  refine th_lal0 hx hb hK hO dL_law_1438 ?_
  refine lv_iload hx hb dL_law_1439 (lv_at hl 0 rfl) ?_
  refine lv_i2l hx hb dL_law_1441 rfl ?_
  refine th_lcmp0 (hf1.trans (congrArg Int32.toInt64 hx9.symm)) hx hb dL_law_1442 ?_
  refine th_zeq (tgt := 1448) hx hb dL_law_1443 (by decide) (by omega) (fun c_2 => ?_) (fun c_2 => by exfalso; omega)
  refine lv_goto (tgt := 1949) hx hb dL_law_1448 (by decide) ?_
  exact hcont _ _ _ _ ⟨ro, _, _, rfl, hJ, hro, hoo, hR, hO, hg⟩ hS (lv_sub hl [2, 3, 4, 5, 6] rfl)

set_option maxRecDepth 100000 in
set_option maxHeartbeats 1600000 in
theorem law_c20 {p : Program} {e : Env} {s : State} {m : MethodId} {below : List Frame} {meth : Method} {c : Code} (l : Launch) (hl0 : l.stackTraces = false) (Y : th_Y) {b L : Nat} {xs : Nat → Int32} (hL : L ≤ 2560) (C0 : lw_At p s m meth c b L xs) (hKN : th_K Y s) (hts : ∀ w ∈ th_G, w.before #[Value.ref b] s = true) (hT : th_T (fun q : Nat => s.heap.size ≤ q) s) (hnc : th_nc s) (g o oo : Nat) (S : th_S) (i : Nat) (hi : i + 5 ≤ L) {H : Heap} {locs : List Loc} {cells slots : Nat} (hcl : cells + 8 ≤ 601024) (hsl : slots + 400 ≤ 7293034) (hI : th_LI Y s.heap.size g o oo S H) (hS : va_S (fun q : Nat => s.heap.size ≤ q) s.heap H locs) {ls : Array Slot} (hl : lv_has ls 7 [(0, .ref b), (1, .ref g), (2, .ref o), (3, .ref oo), (4, .int (nI i))]) (hcont : th_LC p l e s m below meth c b Y g o oo i cells slots) : W p l e room_1 s m #[Value.ref b] below meth c H locs cells slots (lw_Z below #[Value.ref b] s) (F0 m 1451 ls []) := by
  obtain ⟨hx, hb, hr, hml, hown, hts9, hX, hbl, hlk, hgv⟩ := id C0
  obtain ⟨hK, hN⟩ := hKN
  have hown : s.vm.findClass RL = some m.cls := hown
  have hbA : ¬ (fun q : Nat => s.heap.size ≤ q) b := Nat.not_le.mpr hbl
  obtain ⟨ro, thr, f9, rfl, hJ, hro, hoo, hR, hO, hg⟩ := hI
  obtain ⟨ad, Vx, B, dsx, kvx, ks, wy, wz, rfl, hAd, hGI⟩ := hg
  have hAA := th_LAA hS.1 hO.lt (th_RGlt hR) hAd
  have hno : ¬ th_gA ad S.1 H.size oo := fun h9 => (hAA _ h9).2.1 rfl
  have hl : lv_has ls 7 [(0, .ref b), (1, .ref (ad 0)), (2, .ref (ro 0)), (3, .ref oo), (4, .int (nI i))] := hl
  refine lv_aload_n hx hb dL_law_1451 rfl (lv_at hl 1 rfl) ?_
  refine lv_aload_n hx hb dL_law_1452 rfl (lv_at hl 0 rfl) ?_
  refine lv_iload hx hb dL_law_1453 (lv_at hl 4 rfl) ?_
  refine lv_iconst (v := nI 1) hx hb dL_law_1455 (by decide) ?_
  refine lv_iadd hx hb dL_law_1456 ?_
  refine th_ti (nI_add _ _) ?_
  refine th_sld hx hb hX hbl hbA hS (j := i + 1) (by omega) hL dL_law_1457 ?_
  refine lv_aload_n hx hb dL_law_1458 rfl (lv_at hl 3 rfl) ?_
  refine thw_callS hx hb hml hown hts ⟨hK, hN⟩ hl hS ⟨hT, rfl, hnc⟩ (rest := []) (c_L_get l hl0 Y _ ad S Vx B dsx kvx ks wy wz hGI oo f9 hO hno (xs (i + 1))) tw_3_72 tw_1_0 tw_3_71 (by decide +kernel) (k := 3) tw_3_70 dL_law_1459 rfl rfl (Nat.le_of_ble_eq_true rfl) ⟨(Nat.le_of_ble_eq_true rfl), (Nat.le_of_ble_eq_true rfl)⟩ ⟨hcl, hsl⟩ (fun q9 h9 => h9.elim (fun h8 => (hAA q9 h8).1) (fun e9 => by rw [e9]; exact hoo)) (fun v9 H1 locs hp hsm hS => ?_)
  have hk3 := k3_get S (xs (i + 1))
  generalize hre : sp_get S (xs (i + 1)) = r at hp hk3
  obtain ⟨rfl, hg1, f1, hO1, hf1⟩ := hp
  obtain ⟨hR, hg⟩ := th_Lw hAA hro hR hg1 (fun q9 h9 => h9) hsm
  have hO := hO1
  refine lv_istore (lv' := [(5, .int (nI r.1)), (0, .ref b), (1, .ref (ad 0)), (2, .ref (ro 0)), (3, .ref oo), (4, .int (nI i))]) hx hb dL_law_1462 hl (by decide) rfl (fun ls hl => ?_)
  refine lv_aload_n hx hb dL_law_1464 rfl (lv_at hl 3 rfl) ?_
  refine lv_aload_n hx hb dL_law_1465 rfl (lv_at hl 1 rfl) ?_
  refine lv_iload hx hb dL_law_1466 (lv_at hl 5 rfl) ?_
  refine lv_iconst (v := nI 1) hx hb dL_law_1468 (by decide) ?_
  refine lv_iadd hx hb dL_law_1469 ?_
  refine th_ti (nI_add _ _) ?_
  refine th_sld hx hb hX hbl hbA hS (j := i + 1) (by omega) hL dL_law_1470 ?_
  obtain ⟨stp, efr, esz, etr, val, siz, tre, spa, pro, bes, isr, key, lev, kvi, ksz, krt, ala, fol, cts, hPr, hvr⟩ := id hR
  obtain ⟨fs9, hB9⟩ := th_RG0 hR
  refine th_callV hx hb hml hown hts ⟨hK, hN⟩ hl hS hB9 rfl (rest := []) (c_X6_get l Y _ ro hJ S _ stp efr esz etr val siz tre spa pro bes isr key lev kvi ksz krt ala fol cts hPr hvr (xs (i + 1))) ok_X6_get tw_4_135 dL_law_1471 rfl rfl (Nat.le_of_ble_eq_true rfl) ⟨(Nat.le_of_ble_eq_true rfl), (Nat.le_of_ble_eq_true rfl)⟩ ⟨hcl, hsl⟩ (fun q9 h9 => by obtain ⟨j9, hj9, e9⟩ := th_inro h9; rw [← e9]; exact (hro j9 hj9).1) (th_ki (fun x9 H2 locs hp hsm2 hS => ?_))
  rw [hre] at hp
  obtain ⟨hx9, hR⟩ := hp
  obtain ⟨hO, hg⟩ := th_Lm hro hO hg hsm2
  refine lv_istore (lv' := [(6, .int x9), (5, .int (nI r.1)), (0, .ref b), (1, .ref (ad 0)), (2, .ref (ro 0)), (3, .ref oo), (4, .int (nI i))]) hx hb dL_law_1474 hl (by decide) rfl (fun ls hl => ?_)
  refine lv_aload_n hx hb dL_law_1476 rfl (lv_at hl 4 rfl) ?_
  obtain ⟨fs9, hB9⟩ := th_RG0 hR
  refine th_callV hx hb hml hown hts ⟨hK, hN⟩ hl hS hB9 rfl (rest := []) (th_Lthr l hR) ok_X6_thrown tw_3_222 dL_law_1477 rfl rfl (Nat.le_of_ble_eq_true rfl) ⟨(Nat.le_of_ble_eq_true rfl), (Nat.le_of_ble_eq_true rfl)⟩ ⟨hcl, hsl⟩ (fun _ h9 => h9.elim) (th_kpi (fun locs hS => ?_))
  refine lv_iload hx hb dL_law_1480 (lv_at hl 1 rfl) ?_
  refine lv_icmp_eq (tgt := 1487) hx hb dL_law_1482 (by decide) (fun c_1 => ?_) (fun c_1 => by exfalso; exact c_1 rfl)
  refine lv_iload hx hb dL_law_1487 (lv_at hl 1 rfl) ?_
  refine lv_if_ne (tgt := 1504) hx hb dL_law_1489 (by decide) (fun hc9 => ?_) (fun hc9 => ?_)
  · skip
    refine lv_goto (tgt := 1949) hx hb dL_law_1504 (by decide) ?_
    exact hcont _ _ _ _ ⟨ro, _, _, rfl, hJ, hro, hoo, hR, hO, hg⟩ hS (lv_sub hl [2, 3, 4, 5, 6] rfl)
  have hr0 : r.1 = 0 := (th_nI0 hk3).mp hc9
  have hx9 := hx9 hr0
  have hf1 := hf1 hr0
  refine lv_aload_n hx hb dL_law_1492 rfl (lv_at hl 5 rfl) ?_
  refine lv_iconst (v := nI 0) hx hb dL_law_1493 (by decide) ?_
  refine th_lal0 hx hb hK hO dL_law_1494 ?_
  refine lv_iload hx hb dL_law_1495 (lv_at hl 0 rfl) ?_
  refine lv_i2l hx hb dL_law_1497 rfl ?_
  refine th_lcmp0 (hf1.trans (congrArg Int32.toInt64 hx9.symm)) hx hb dL_law_1498 ?_
  refine th_zeq (tgt := 1504) hx hb dL_law_1499 (by decide) (by omega) (fun c_2 => ?_) (fun c_2 => by exfalso; omega)
  refine lv_goto (tgt := 1949) hx hb dL_law_1504 (by decide) ?_
  exact hcont _ _ _ _ ⟨ro, _, _, rfl, hJ, hro, hoo, hR, hO, hg⟩ hS (lv_sub hl [2, 3, 4, 5, 6] rfl)

set_option maxRecDepth 100000 in
set_option maxHeartbeats 1600000 in
theorem law_c21 {p : Program} {e : Env} {s : State} {m : MethodId} {below : List Frame} {meth : Method} {c : Code} (l : Launch) (hl0 : l.stackTraces = false) (Y : th_Y) {b L : Nat} {xs : Nat → Int32} (hL : L ≤ 2560) (C0 : lw_At p s m meth c b L xs) (hKN : th_K Y s) (hts : ∀ w ∈ th_G, w.before #[Value.ref b] s = true) (hT : th_T (fun q : Nat => s.heap.size ≤ q) s) (hnc : th_nc s) (g o oo : Nat) (S : th_S) (i : Nat) (hi : i + 5 ≤ L) {H : Heap} {locs : List Loc} {cells slots : Nat} (hcl : cells + 8 ≤ 601024) (hsl : slots + 400 ≤ 7293034) (hI : th_LI Y s.heap.size g o oo S H) (hS : va_S (fun q : Nat => s.heap.size ≤ q) s.heap H locs) {ls : Array Slot} (hl : lv_has ls 7 [(0, .ref b), (1, .ref g), (2, .ref o), (3, .ref oo), (4, .int (nI i))]) (hcont : th_LC p l e s m below meth c b Y g o oo i cells slots) : W p l e room_1 s m #[Value.ref b] below meth c H locs cells slots (lw_Z below #[Value.ref b] s) (F0 m 1507 ls []) := by
  obtain ⟨hx, hb, hr, hml, hown, hts9, hX, hbl, hlk, hgv⟩ := id C0
  obtain ⟨hK, hN⟩ := hKN
  have hown : s.vm.findClass RL = some m.cls := hown
  have hbA : ¬ (fun q : Nat => s.heap.size ≤ q) b := Nat.not_le.mpr hbl
  obtain ⟨ro, thr, f9, rfl, hJ, hro, hoo, hR, hO, hg⟩ := hI
  obtain ⟨ad, Vx, B, dsx, kvx, ks, wy, wz, rfl, hAd, hGI⟩ := hg
  have hAA := th_LAA hS.1 hO.lt (th_RGlt hR) hAd
  have hno : ¬ th_gA ad S.1 H.size oo := fun h9 => (hAA _ h9).2.1 rfl
  have hl : lv_has ls 7 [(0, .ref b), (1, .ref (ad 0)), (2, .ref (ro 0)), (3, .ref oo), (4, .int (nI i))] := hl
  refine lv_aload_n hx hb dL_law_1507 rfl (lv_at hl 1 rfl) ?_
  refine th_callV hx hb hml hown hts ⟨hK, hN⟩ hl hS ((th_gO hGI.1) 0 _ rfl) rfl (rest := []) (c_X5_mapRoot l Y _ ad S Vx B dsx kvx ks wy wz hGI) ok_X5_mapRoot tw_1_157 dL_law_1508 rfl rfl (Nat.le_of_ble_eq_true rfl) ⟨(Nat.le_of_ble_eq_true rfl), (Nat.le_of_ble_eq_true rfl)⟩ ⟨hcl, hsl⟩ (fun q9 h9 => (hAA q9 h9).1) (th_ki (fun y9 H1 locs hp hsm hS => ?_))
  obtain ⟨-, hy9, hg1⟩ := hp
  have hO := hO.kept (hsm.2 _ hO.lt hno)
  obtain ⟨hR, hg⟩ := th_Lw hAA hro hR hg1 (fun q9 h9 => Or.inl h9) hsm
  refine lv_aload_n hx hb dL_law_1511 rfl (lv_at hl 2 rfl) ?_
  obtain ⟨stp, efr, esz, etr, val, siz, tre, spa, pro, bes, isr, key, lev, kvi, ksz, krt, ala, fol, cts, hPr, hvr⟩ := id hR
  obtain ⟨fs9, hB9⟩ := th_RG0 hR
  refine th_callV hx hb hml hown hts ⟨hK, hN⟩ hl hS hB9 rfl (rest := [.int y9]) (c_X6_mapRoot l Y _ ro hJ S _ stp efr esz etr val siz tre spa pro bes isr key lev kvi ksz krt ala fol cts hPr hvr) ok_X6_mapRoot tw_4_139 dL_law_1512 rfl rfl (Nat.le_of_ble_eq_true rfl) ⟨(Nat.le_of_ble_eq_true rfl), (Nat.le_of_ble_eq_true rfl)⟩ ⟨hcl, hsl⟩ (fun q9 h9 => by obtain ⟨j9, hj9, e9⟩ := th_inro h9; rw [← e9]; exact (hro j9 hj9).1) (th_ki (fun x9 H2 locs hp hsm2 hS => ?_))
  obtain ⟨hx9, hR⟩ := hp
  have hx9 : x9 = y9 := (hx9 rfl).trans hy9.symm
  obtain ⟨hO, hg⟩ := th_Lm hro hO hg hsm2
  refine lv_icmp_eq (tgt := 1949) hx hb dL_law_1515 (by decide) (fun c_1 => ?_) (fun c_1 => by exfalso; exact c_1 hx9.symm)
  exact hcont _ _ _ _ ⟨ro, _, _, rfl, hJ, hro, hoo, hR, hO, hg⟩ hS (lv_sub hl [0, 1, 2, 3, 4] rfl)

set_option maxRecDepth 100000 in
set_option maxHeartbeats 1600000 in
theorem law_c22 {p : Program} {e : Env} {s : State} {m : MethodId} {below : List Frame} {meth : Method} {c : Code} (l : Launch) (hl0 : l.stackTraces = false) (Y : th_Y) {b L : Nat} {xs : Nat → Int32} (hL : L ≤ 2560) (C0 : lw_At p s m meth c b L xs) (hKN : th_K Y s) (hts : ∀ w ∈ th_G, w.before #[Value.ref b] s = true) (hT : th_T (fun q : Nat => s.heap.size ≤ q) s) (hnc : th_nc s) (g o oo : Nat) (S : th_S) (i : Nat) (hi : i + 5 ≤ L) {H : Heap} {locs : List Loc} {cells slots : Nat} (hcl : cells + 8 ≤ 601024) (hsl : slots + 400 ≤ 7293034) (hI : th_LI Y s.heap.size g o oo S H) (hS : va_S (fun q : Nat => s.heap.size ≤ q) s.heap H locs) {ls : Array Slot} (hl : lv_has ls 7 [(0, .ref b), (1, .ref g), (2, .ref o), (3, .ref oo), (4, .int (nI i))]) (hcont : th_LC p l e s m below meth c b Y g o oo i cells slots) : W p l e room_1 s m #[Value.ref b] below meth c H locs cells slots (lw_Z below #[Value.ref b] s) (F0 m 1520 ls []) := by
  obtain ⟨hx, hb, hr, hml, hown, hts9, hX, hbl, hlk, hgv⟩ := id C0
  obtain ⟨hK, hN⟩ := hKN
  have hown : s.vm.findClass RL = some m.cls := hown
  have hbA : ¬ (fun q : Nat => s.heap.size ≤ q) b := Nat.not_le.mpr hbl
  obtain ⟨ro, thr, f9, rfl, hJ, hro, hoo, hR, hO, hg⟩ := hI
  obtain ⟨ad, Vx, B, dsx, kvx, ks, wy, wz, rfl, hAd, hGI⟩ := hg
  have hAA := th_LAA hS.1 hO.lt (th_RGlt hR) hAd
  have hno : ¬ th_gA ad S.1 H.size oo := fun h9 => (hAA _ h9).2.1 rfl
  have hl : lv_has ls 7 [(0, .ref b), (1, .ref (ad 0)), (2, .ref (ro 0)), (3, .ref oo), (4, .int (nI i))] := hl
  refine lv_aload_n hx hb dL_law_1520 rfl (lv_at hl 1 rfl) ?_
  refine lv_aload_n hx hb dL_law_1521 rfl (lv_at hl 0 rfl) ?_
  refine lv_iload hx hb dL_law_1522 (lv_at hl 4 rfl) ?_
  refine lv_iconst (v := nI 1) hx hb dL_law_1524 (by decide) ?_
  refine lv_iadd hx hb dL_law_1525 ?_
  refine th_ti (nI_add _ _) ?_
  refine th_sld hx hb hX hbl hbA hS (j := i + 1) (by omega) hL dL_law_1526 ?_
  refine lv_aload_n hx hb dL_law_1527 rfl (lv_at hl 0 rfl) ?_
  refine lv_iload hx hb dL_law_1528 (lv_at hl 4 rfl) ?_
  refine lv_iconst (v := nI 2) hx hb dL_law_1530 (by decide) ?_
  refine lv_iadd hx hb dL_law_1531 ?_
  refine th_ti (nI_add _ _) ?_
  refine th_sld hx hb hX hbl hbA hS (j := i + 2) (by omega) hL dL_law_1532 ?_
  refine lv_aload_n hx hb dL_law_1533 rfl (lv_at hl 3 rfl) ?_
  refine thw_callS hx hb hml hown hts ⟨hK, hN⟩ hl hS ⟨hT, rfl, hnc⟩ (rest := []) (c_L_show l hl0 Y _ ad S Vx B dsx kvx ks wy wz hGI oo f9 hO hno (xs (i + 1)) (xs (i + 2))) tw_3_83 tw_1_0 tw_3_82 (by decide +kernel) (k := 4) tw_3_81 dL_law_1534 rfl rfl (Nat.le_of_ble_eq_true rfl) ⟨(Nat.le_of_ble_eq_true rfl), (Nat.le_of_ble_eq_true rfl)⟩ ⟨hcl, hsl⟩ (fun q9 h9 => h9.elim (fun h8 => (hAA q9 h8).1) (fun e9 => by rw [e9]; exact hoo)) (fun v9 H1 locs hp hsm hS => ?_)
  have hk3 := k3_show S (xs (i + 1)) (xs (i + 2))
  generalize hre : sp_show S (xs (i + 1)) (xs (i + 2)) = r at hp hk3
  obtain ⟨rfl, hg1, f1, hO1, hf1⟩ := hp
  obtain ⟨hR, hg⟩ := th_Lw hAA hro hR hg1 (fun q9 h9 => h9) hsm
  have hO := hO1
  refine lv_istore (lv' := [(5, .int (nI r.1)), (0, .ref b), (1, .ref (ad 0)), (2, .ref (ro 0)), (3, .ref oo), (4, .int (nI i))]) hx hb dL_law_1537 hl (by decide) rfl (fun ls hl => ?_)
  refine lv_aload_n hx hb dL_law_1539 rfl (lv_at hl 3 rfl) ?_
  refine lv_aload_n hx hb dL_law_1540 rfl (lv_at hl 1 rfl) ?_
  refine lv_iload hx hb dL_law_1541 (lv_at hl 5 rfl) ?_
  refine lv_iconst (v := nI 1) hx hb dL_law_1543 (by decide) ?_
  refine lv_iadd hx hb dL_law_1544 ?_
  refine th_ti (nI_add _ _) ?_
  refine th_sld hx hb hX hbl hbA hS (j := i + 1) (by omega) hL dL_law_1545 ?_
  refine lv_aload_n hx hb dL_law_1546 rfl (lv_at hl 1 rfl) ?_
  refine lv_iload hx hb dL_law_1547 (lv_at hl 5 rfl) ?_
  refine lv_iconst (v := nI 2) hx hb dL_law_1549 (by decide) ?_
  refine lv_iadd hx hb dL_law_1550 ?_
  refine th_ti (nI_add _ _) ?_
  refine th_sld hx hb hX hbl hbA hS (j := i + 2) (by omega) hL dL_law_1551 ?_
  obtain ⟨stp, efr, esz, etr, val, siz, tre, spa, pro, bes, isr, key, lev, kvi, ksz, krt, ala, fol, cts, hPr, hvr⟩ := id hR
  obtain ⟨fs9, hB9⟩ := th_RG0 hR
  refine th_callV hx hb hml hown hts ⟨hK, hN⟩ hl hS hB9 rfl (rest := []) (c_X6_show l Y _ ro hJ S _ stp efr esz etr val siz tre spa pro bes isr key lev kvi ksz krt ala fol cts hPr hvr (xs (i + 1)) (xs (i + 2))) ok_X6_show tw_4_143 dL_law_1552 rfl rfl (Nat.le_of_ble_eq_true rfl) ⟨(Nat.le_of_ble_eq_true rfl), (Nat.le_of_ble_eq_true rfl)⟩ ⟨hcl, hsl⟩ (fun q9 h9 => by obtain ⟨j9, hj9, e9⟩ := th_inro h9; rw [← e9]; exact (hro j9 hj9).1) (th_ki (fun x9 H2 locs hp hsm2 hS => ?_))
  rw [hre] at hp
  obtain ⟨hx9, hR⟩ := hp
  obtain ⟨hO, hg⟩ := th_Lm hro hO hg hsm2
  refine lv_istore (lv' := [(6, .int x9), (5, .int (nI r.1)), (0, .ref b), (1, .ref (ad 0)), (2, .ref (ro 0)), (3, .ref oo), (4, .int (nI i))]) hx hb dL_law_1555 hl (by decide) rfl (fun ls hl => ?_)
  refine lv_aload_n hx hb dL_law_1557 rfl (lv_at hl 4 rfl) ?_
  obtain ⟨fs9, hB9⟩ := th_RG0 hR
  refine th_callV hx hb hml hown hts ⟨hK, hN⟩ hl hS hB9 rfl (rest := []) (th_Lthr l hR) ok_X6_thrown tw_3_222 dL_law_1558 rfl rfl (Nat.le_of_ble_eq_true rfl) ⟨(Nat.le_of_ble_eq_true rfl), (Nat.le_of_ble_eq_true rfl)⟩ ⟨hcl, hsl⟩ (fun _ h9 => h9.elim) (th_kpi (fun locs hS => ?_))
  refine lv_iload hx hb dL_law_1561 (lv_at hl 1 rfl) ?_
  refine lv_icmp_eq (tgt := 1568) hx hb dL_law_1563 (by decide) (fun c_1 => ?_) (fun c_1 => by exfalso; exact c_1 rfl)
  refine lv_iload hx hb dL_law_1568 (lv_at hl 1 rfl) ?_
  refine lv_if_ne (tgt := 1592) hx hb dL_law_1570 (by decide) (fun hc9 => ?_) (fun hc9 => ?_)
  · skip
    refine lv_goto (tgt := 1949) hx hb dL_law_1592 (by decide) ?_
    exact hcont _ _ _ _ ⟨ro, _, _, rfl, hJ, hro, hoo, hR, hO, hg⟩ hS (lv_sub hl [2, 3, 4, 5, 6] rfl)
  have hr0 : r.1 = 0 := (th_nI0 hk3).mp hc9
  have hx9 := hx9 hr0
  have hf1 := hf1 hr0
  refine lv_aload_n hx hb dL_law_1573 rfl (lv_at hl 5 rfl) ?_
  refine lv_iconst (v := nI 0) hx hb dL_law_1574 (by decide) ?_
  refine th_lal0 hx hb hK hO dL_law_1575 ?_
  refine lv_iload hx hb dL_law_1576 (lv_at hl 0 rfl) ?_
  have hkb := hre ▸ (kb_show S (xs (i + 1)) (xs (i + 2)))
  refine lv_if_eq (tgt := 1585) hx hb dL_law_1578 (by decide) (fun hc8 => ?_) (fun hc8 => ?_)
  · have hfe : f1 0 = (0 : Int64) := hf1.trans (by rw [← hx9, hc8]; rfl)
    refine lv_lconst (v := 0) hx hb dL_law_1585 (by decide) ?_
    refine th_lcmp0 hfe hx hb dL_law_1586 ?_
    refine th_zeq (tgt := 1592) hx hb dL_law_1587 (by decide) (by omega) (fun c_2 => ?_) (fun c_2 => by exfalso; omega)
    refine lv_goto (tgt := 1949) hx hb dL_law_1592 (by decide) ?_
    exact hcont _ _ _ _ ⟨ro, _, _, rfl, hJ, hro, hoo, hR, hO, hg⟩ hS (lv_sub hl [2, 3, 4, 5, 6] rfl)
  have hfe : f1 0 = (1 : Int64) := hf1.trans (by rw [(hkb hr0).resolve_left (fun z9 => hc8 (hx9.trans z9))]; rfl)
  refine lv_lconst (v := 1) hx hb dL_law_1581 (by decide) ?_
  refine lv_goto (tgt := 1586) hx hb dL_law_1582 (by decide) ?_
  refine th_lcmp0 hfe hx hb dL_law_1586 ?_
  refine th_zeq (tgt := 1592) hx hb dL_law_1587 (by decide) (by omega) (fun c_3 => ?_) (fun c_3 => by exfalso; omega)
  refine lv_goto (tgt := 1949) hx hb dL_law_1592 (by decide) ?_
  exact hcont _ _ _ _ ⟨ro, _, _, rfl, hJ, hro, hoo, hR, hO, hg⟩ hS (lv_sub hl [2, 3, 4, 5, 6] rfl)

set_option maxRecDepth 100000 in
set_option maxHeartbeats 1600000 in
theorem law_c23 {p : Program} {e : Env} {s : State} {m : MethodId} {below : List Frame} {meth : Method} {c : Code} (l : Launch) (hl0 : l.stackTraces = false) (Y : th_Y) {b L : Nat} {xs : Nat → Int32} (hL : L ≤ 2560) (C0 : lw_At p s m meth c b L xs) (hKN : th_K Y s) (hts : ∀ w ∈ th_G, w.before #[Value.ref b] s = true) (hT : th_T (fun q : Nat => s.heap.size ≤ q) s) (hnc : th_nc s) (g o oo : Nat) (S : th_S) (i : Nat) (hi : i + 5 ≤ L) {H : Heap} {locs : List Loc} {cells slots : Nat} (hcl : cells + 8 ≤ 601024) (hsl : slots + 400 ≤ 7293034) (hI : th_LI Y s.heap.size g o oo S H) (hS : va_S (fun q : Nat => s.heap.size ≤ q) s.heap H locs) {ls : Array Slot} (hl : lv_has ls 7 [(0, .ref b), (1, .ref g), (2, .ref o), (3, .ref oo), (4, .int (nI i))]) (hcont : th_LC p l e s m below meth c b Y g o oo i cells slots) : W p l e room_1 s m #[Value.ref b] below meth c H locs cells slots (lw_Z below #[Value.ref b] s) (F0 m 1595 ls []) := by
  obtain ⟨hx, hb, hr, hml, hown, hts9, hX, hbl, hlk, hgv⟩ := id C0
  obtain ⟨hK, hN⟩ := hKN
  have hown : s.vm.findClass RL = some m.cls := hown
  have hbA : ¬ (fun q : Nat => s.heap.size ≤ q) b := Nat.not_le.mpr hbl
  obtain ⟨ro, thr, f9, rfl, hJ, hro, hoo, hR, hO, hg⟩ := hI
  obtain ⟨ad, Vx, B, dsx, kvx, ks, wy, wz, rfl, hAd, hGI⟩ := hg
  have hAA := th_LAA hS.1 hO.lt (th_RGlt hR) hAd
  have hno : ¬ th_gA ad S.1 H.size oo := fun h9 => (hAA _ h9).2.1 rfl
  have hl : lv_has ls 7 [(0, .ref b), (1, .ref (ad 0)), (2, .ref (ro 0)), (3, .ref oo), (4, .int (nI i))] := hl
  refine lv_aload_n hx hb dL_law_1595 rfl (lv_at hl 1 rfl) ?_
  refine lv_aload_n hx hb dL_law_1596 rfl (lv_at hl 0 rfl) ?_
  refine lv_iload hx hb dL_law_1597 (lv_at hl 4 rfl) ?_
  refine lv_iconst (v := nI 1) hx hb dL_law_1599 (by decide) ?_
  refine lv_iadd hx hb dL_law_1600 ?_
  refine th_ti (nI_add _ _) ?_
  refine th_sld hx hb hX hbl hbA hS (j := i + 1) (by omega) hL dL_law_1601 ?_
  refine lv_aload_n hx hb dL_law_1602 rfl (lv_at hl 0 rfl) ?_
  refine lv_iload hx hb dL_law_1603 (lv_at hl 4 rfl) ?_
  refine lv_iconst (v := nI 2) hx hb dL_law_1605 (by decide) ?_
  refine lv_iadd hx hb dL_law_1606 ?_
  refine th_ti (nI_add _ _) ?_
  refine th_sld hx hb hX hbl hbA hS (j := i + 2) (by omega) hL dL_law_1607 ?_
  refine lv_aload_n hx hb dL_law_1608 rfl (lv_at hl 3 rfl) ?_
  refine thw_callS hx hb hml hown hts ⟨hK, hN⟩ hl hS ⟨hT, rfl, hnc⟩ (rest := []) (c_L_gossip l hl0 Y _ ad S Vx B dsx kvx ks wy wz hGI oo f9 hO hno (xs (i + 1)) (xs (i + 2))) tw_3_105 tw_1_0 tw_3_104 (by decide +kernel) (k := 4) tw_3_103 dL_law_1609 rfl rfl (Nat.le_of_ble_eq_true rfl) ⟨(Nat.le_of_ble_eq_true rfl), (Nat.le_of_ble_eq_true rfl)⟩ ⟨hcl, hsl⟩ (fun q9 h9 => h9.elim (fun h8 => (hAA q9 h8).1) (fun e9 => by rw [e9]; exact hoo)) (fun v9 H1 locs hp hsm hS => ?_)
  have hk3 := k3_gossip S (xs (i + 1)) (xs (i + 2))
  generalize hre : sp_gossip S (xs (i + 1)) (xs (i + 2)) = r at hp hk3
  obtain ⟨rfl, hg1, f1, hO1, hf1⟩ := hp
  obtain ⟨hR, hg⟩ := th_Lw hAA hro hR hg1 (fun q9 h9 => h9) hsm
  have hO := hO1
  refine lv_istore (lv' := [(5, .int (nI r.1)), (0, .ref b), (1, .ref (ad 0)), (2, .ref (ro 0)), (3, .ref oo), (4, .int (nI i))]) hx hb dL_law_1612 hl (by decide) rfl (fun ls hl => ?_)
  refine lv_aload_n hx hb dL_law_1614 rfl (lv_at hl 3 rfl) ?_
  refine lv_aload_n hx hb dL_law_1615 rfl (lv_at hl 1 rfl) ?_
  refine lv_iload hx hb dL_law_1616 (lv_at hl 5 rfl) ?_
  refine lv_iconst (v := nI 1) hx hb dL_law_1618 (by decide) ?_
  refine lv_iadd hx hb dL_law_1619 ?_
  refine th_ti (nI_add _ _) ?_
  refine th_sld hx hb hX hbl hbA hS (j := i + 1) (by omega) hL dL_law_1620 ?_
  refine lv_aload_n hx hb dL_law_1621 rfl (lv_at hl 1 rfl) ?_
  refine lv_iload hx hb dL_law_1622 (lv_at hl 5 rfl) ?_
  refine lv_iconst (v := nI 2) hx hb dL_law_1624 (by decide) ?_
  refine lv_iadd hx hb dL_law_1625 ?_
  refine th_ti (nI_add _ _) ?_
  refine th_sld hx hb hX hbl hbA hS (j := i + 2) (by omega) hL dL_law_1626 ?_
  obtain ⟨stp, efr, esz, etr, val, siz, tre, spa, pro, bes, isr, key, lev, kvi, ksz, krt, ala, fol, cts, hPr, hvr⟩ := id hR
  obtain ⟨fs9, hB9⟩ := th_RG0 hR
  refine th_callV hx hb hml hown hts ⟨hK, hN⟩ hl hS hB9 rfl (rest := []) (c_X6_gossip l Y _ ro hJ S _ stp efr esz etr val siz tre spa pro bes isr key lev kvi ksz krt ala fol cts hPr hvr (xs (i + 1)) (xs (i + 2))) ok_X6_gossip tw_4_150 dL_law_1627 rfl rfl (Nat.le_of_ble_eq_true rfl) ⟨(Nat.le_of_ble_eq_true rfl), (Nat.le_of_ble_eq_true rfl)⟩ ⟨hcl, hsl⟩ (fun q9 h9 => by obtain ⟨j9, hj9, e9⟩ := th_inro h9; rw [← e9]; exact (hro j9 hj9).1) (th_ki (fun x9 H2 locs hp hsm2 hS => ?_))
  rw [hre] at hp
  obtain ⟨hx9, hR⟩ := hp
  obtain ⟨hO, hg⟩ := th_Lm hro hO hg hsm2
  refine lv_istore (lv' := [(6, .int x9), (5, .int (nI r.1)), (0, .ref b), (1, .ref (ad 0)), (2, .ref (ro 0)), (3, .ref oo), (4, .int (nI i))]) hx hb dL_law_1630 hl (by decide) rfl (fun ls hl => ?_)
  refine lv_aload_n hx hb dL_law_1632 rfl (lv_at hl 4 rfl) ?_
  obtain ⟨fs9, hB9⟩ := th_RG0 hR
  refine th_callV hx hb hml hown hts ⟨hK, hN⟩ hl hS hB9 rfl (rest := []) (th_Lthr l hR) ok_X6_thrown tw_3_222 dL_law_1633 rfl rfl (Nat.le_of_ble_eq_true rfl) ⟨(Nat.le_of_ble_eq_true rfl), (Nat.le_of_ble_eq_true rfl)⟩ ⟨hcl, hsl⟩ (fun _ h9 => h9.elim) (th_kpi (fun locs hS => ?_))
  refine lv_iload hx hb dL_law_1636 (lv_at hl 1 rfl) ?_
  refine lv_icmp_eq (tgt := 1643) hx hb dL_law_1638 (by decide) (fun c_1 => ?_) (fun c_1 => by exfalso; exact c_1 rfl)
  refine lv_iload hx hb dL_law_1643 (lv_at hl 1 rfl) ?_
  refine lv_if_ne (tgt := 1667) hx hb dL_law_1645 (by decide) (fun hc9 => ?_) (fun hc9 => ?_)
  · skip
    refine lv_goto (tgt := 1949) hx hb dL_law_1667 (by decide) ?_
    exact hcont _ _ _ _ ⟨ro, _, _, rfl, hJ, hro, hoo, hR, hO, hg⟩ hS (lv_sub hl [2, 3, 4, 5, 6] rfl)
  have hr0 : r.1 = 0 := (th_nI0 hk3).mp hc9
  have hx9 := hx9 hr0
  have hf1 := hf1 hr0
  refine lv_aload_n hx hb dL_law_1648 rfl (lv_at hl 5 rfl) ?_
  refine lv_iconst (v := nI 0) hx hb dL_law_1649 (by decide) ?_
  refine th_lal0 hx hb hK hO dL_law_1650 ?_
  refine lv_iload hx hb dL_law_1651 (lv_at hl 0 rfl) ?_
  have hkb := hre ▸ (kb_gossip S (xs (i + 1)) (xs (i + 2)))
  refine lv_if_eq (tgt := 1660) hx hb dL_law_1653 (by decide) (fun hc8 => ?_) (fun hc8 => ?_)
  · have hfe : f1 0 = (0 : Int64) := hf1.trans (by rw [← hx9, hc8]; rfl)
    refine lv_lconst (v := 0) hx hb dL_law_1660 (by decide) ?_
    refine th_lcmp0 hfe hx hb dL_law_1661 ?_
    refine th_zeq (tgt := 1667) hx hb dL_law_1662 (by decide) (by omega) (fun c_2 => ?_) (fun c_2 => by exfalso; omega)
    refine lv_goto (tgt := 1949) hx hb dL_law_1667 (by decide) ?_
    exact hcont _ _ _ _ ⟨ro, _, _, rfl, hJ, hro, hoo, hR, hO, hg⟩ hS (lv_sub hl [2, 3, 4, 5, 6] rfl)
  have hfe : f1 0 = (1 : Int64) := hf1.trans (by rw [(hkb hr0).resolve_left (fun z9 => hc8 (hx9.trans z9))]; rfl)
  refine lv_lconst (v := 1) hx hb dL_law_1656 (by decide) ?_
  refine lv_goto (tgt := 1661) hx hb dL_law_1657 (by decide) ?_
  refine th_lcmp0 hfe hx hb dL_law_1661 ?_
  refine th_zeq (tgt := 1667) hx hb dL_law_1662 (by decide) (by omega) (fun c_3 => ?_) (fun c_3 => by exfalso; omega)
  refine lv_goto (tgt := 1949) hx hb dL_law_1667 (by decide) ?_
  exact hcont _ _ _ _ ⟨ro, _, _, rfl, hJ, hro, hoo, hR, hO, hg⟩ hS (lv_sub hl [2, 3, 4, 5, 6] rfl)

set_option maxRecDepth 100000 in
set_option maxHeartbeats 1600000 in
theorem law_c24 {p : Program} {e : Env} {s : State} {m : MethodId} {below : List Frame} {meth : Method} {c : Code} (l : Launch) (hl0 : l.stackTraces = false) (Y : th_Y) {b L : Nat} {xs : Nat → Int32} (hL : L ≤ 2560) (C0 : lw_At p s m meth c b L xs) (hKN : th_K Y s) (hts : ∀ w ∈ th_G, w.before #[Value.ref b] s = true) (hT : th_T (fun q : Nat => s.heap.size ≤ q) s) (hnc : th_nc s) (g o oo : Nat) (S : th_S) (i : Nat) (hi : i + 5 ≤ L) {H : Heap} {locs : List Loc} {cells slots : Nat} (hcl : cells + 8 ≤ 601024) (hsl : slots + 400 ≤ 7293034) (hI : th_LI Y s.heap.size g o oo S H) (hS : va_S (fun q : Nat => s.heap.size ≤ q) s.heap H locs) {ls : Array Slot} (hl : lv_has ls 7 [(0, .ref b), (1, .ref g), (2, .ref o), (3, .ref oo), (4, .int (nI i))]) (hcont : th_LC p l e s m below meth c b Y g o oo i cells slots) : W p l e room_1 s m #[Value.ref b] below meth c H locs cells slots (lw_Z below #[Value.ref b] s) (F0 m 1670 ls []) := by
  obtain ⟨hx, hb, hr, hml, hown, hts9, hX, hbl, hlk, hgv⟩ := id C0
  obtain ⟨hK, hN⟩ := hKN
  have hown : s.vm.findClass RL = some m.cls := hown
  have hbA : ¬ (fun q : Nat => s.heap.size ≤ q) b := Nat.not_le.mpr hbl
  obtain ⟨ro, thr, f9, rfl, hJ, hro, hoo, hR, hO, hg⟩ := hI
  obtain ⟨ad, Vx, B, dsx, kvx, ks, wy, wz, rfl, hAd, hGI⟩ := hg
  have hAA := th_LAA hS.1 hO.lt (th_RGlt hR) hAd
  have hno : ¬ th_gA ad S.1 H.size oo := fun h9 => (hAA _ h9).2.1 rfl
  have hl : lv_has ls 7 [(0, .ref b), (1, .ref (ad 0)), (2, .ref (ro 0)), (3, .ref oo), (4, .int (nI i))] := hl
  refine lv_aload_n hx hb dL_law_1670 rfl (lv_at hl 1 rfl) ?_
  refine lv_aload_n hx hb dL_law_1671 rfl (lv_at hl 0 rfl) ?_
  refine lv_iload hx hb dL_law_1672 (lv_at hl 4 rfl) ?_
  refine lv_iconst (v := nI 1) hx hb dL_law_1674 (by decide) ?_
  refine lv_iadd hx hb dL_law_1675 ?_
  refine th_ti (nI_add _ _) ?_
  refine th_sld hx hb hX hbl hbA hS (j := i + 1) (by omega) hL dL_law_1676 ?_
  refine lv_aload_n hx hb dL_law_1677 rfl (lv_at hl 0 rfl) ?_
  refine lv_iload hx hb dL_law_1678 (lv_at hl 4 rfl) ?_
  refine lv_iconst (v := nI 2) hx hb dL_law_1680 (by decide) ?_
  refine lv_iadd hx hb dL_law_1681 ?_
  refine th_ti (nI_add _ _) ?_
  refine th_sld hx hb hX hbl hbA hS (j := i + 2) (by omega) hL dL_law_1682 ?_
  refine thw_callS hx hb hml hown hts ⟨hK, hN⟩ hl hS ⟨hT, rfl, hnc⟩ (rest := []) (c_L_follow l hl0 Y _ ad S Vx B dsx kvx ks wy wz hGI (xs (i + 1)) (xs (i + 2))) tw_3_116 tw_1_0 tw_3_115 (by decide +kernel) (k := 3) tw_3_114 dL_law_1683 rfl rfl (Nat.le_of_ble_eq_true rfl) ⟨(Nat.le_of_ble_eq_true rfl), (Nat.le_of_ble_eq_true rfl)⟩ ⟨hcl, hsl⟩ (fun q9 h9 => (hAA q9 h9).1) (fun v9 H1 locs hp hsm hS => ?_)
  have hk3 := k3_follow S (xs (i + 1)) (xs (i + 2))
  generalize hre : sp_follow S (xs (i + 1)) (xs (i + 2)) = r at hp hk3
  obtain ⟨rfl, hg1⟩ := hp
  have hO := hO.kept (hsm.2 _ hO.lt hno)
  obtain ⟨hR, hg⟩ := th_Lw hAA hro hR hg1 (fun q9 h9 => Or.inl h9) hsm
  refine lv_istore (lv' := [(5, .int (nI r.1)), (0, .ref b), (1, .ref (ad 0)), (2, .ref (ro 0)), (3, .ref oo), (4, .int (nI i))]) hx hb dL_law_1686 hl (by decide) rfl (fun ls hl => ?_)
  refine lv_aload_n hx hb dL_law_1688 rfl (lv_at hl 3 rfl) ?_
  refine lv_aload_n hx hb dL_law_1689 rfl (lv_at hl 1 rfl) ?_
  refine lv_iload hx hb dL_law_1690 (lv_at hl 5 rfl) ?_
  refine lv_iconst (v := nI 1) hx hb dL_law_1692 (by decide) ?_
  refine lv_iadd hx hb dL_law_1693 ?_
  refine th_ti (nI_add _ _) ?_
  refine th_sld hx hb hX hbl hbA hS (j := i + 1) (by omega) hL dL_law_1694 ?_
  refine lv_aload_n hx hb dL_law_1695 rfl (lv_at hl 1 rfl) ?_
  refine lv_iload hx hb dL_law_1696 (lv_at hl 5 rfl) ?_
  refine lv_iconst (v := nI 2) hx hb dL_law_1698 (by decide) ?_
  refine lv_iadd hx hb dL_law_1699 ?_
  refine th_ti (nI_add _ _) ?_
  refine th_sld hx hb hX hbl hbA hS (j := i + 2) (by omega) hL dL_law_1700 ?_
  obtain ⟨stp, efr, esz, etr, val, siz, tre, spa, pro, bes, isr, key, lev, kvi, ksz, krt, ala, fol, cts, hPr, hvr⟩ := id hR
  obtain ⟨fs9, hB9⟩ := th_RG0 hR
  refine th_callV hx hb hml hown hts ⟨hK, hN⟩ hl hS hB9 rfl (rest := []) (c_X6_follow l Y _ ro hJ S _ stp efr esz etr val siz tre spa pro bes isr key lev kvi ksz krt ala fol cts hPr hvr (xs (i + 1)) (xs (i + 2))) ok_X6_follow tw_4_154 dL_law_1701 rfl rfl (Nat.le_of_ble_eq_true rfl) ⟨(Nat.le_of_ble_eq_true rfl), (Nat.le_of_ble_eq_true rfl)⟩ ⟨hcl, hsl⟩ (fun q9 h9 => by obtain ⟨j9, hj9, e9⟩ := th_inro h9; rw [← e9]; exact (hro j9 hj9).1) (th_kv (fun H2 locs hp hsm2 hS => ?_))
  rw [hre] at hp
  have hR := hp
  obtain ⟨hO, hg⟩ := th_Lm hro hO hg hsm2
  refine lv_aload_n hx hb dL_law_1704 rfl (lv_at hl 3 rfl) ?_
  obtain ⟨fs9, hB9⟩ := th_RG0 hR
  refine th_callV hx hb hml hown hts ⟨hK, hN⟩ hl hS hB9 rfl (rest := []) (th_Lthr l hR) ok_X6_thrown tw_3_222 dL_law_1705 rfl rfl (Nat.le_of_ble_eq_true rfl) ⟨(Nat.le_of_ble_eq_true rfl), (Nat.le_of_ble_eq_true rfl)⟩ ⟨hcl, hsl⟩ (fun _ h9 => h9.elim) (th_kpi (fun locs hS => ?_))
  refine lv_iload hx hb dL_law_1708 (lv_at hl 0 rfl) ?_
  refine lv_icmp_eq (tgt := 1715) hx hb dL_law_1710 (by decide) (fun c_1 => ?_) (fun c_1 => by exfalso; exact c_1 rfl)
  refine lv_goto (tgt := 1949) hx hb dL_law_1715 (by decide) ?_
  exact hcont _ _ _ _ ⟨ro, _, _, rfl, hJ, hro, hoo, hR, hO, hg⟩ hS (lv_sub hl [1, 2, 3, 4, 5] rfl)

set_option maxRecDepth 100000 in
set_option maxHeartbeats 1600000 in
theorem law_c25 {p : Program} {e : Env} {s : State} {m : MethodId} {below : List Frame} {meth : Method} {c : Code} (l : Launch) (hl0 : l.stackTraces = false) (Y : th_Y) {b L : Nat} {xs : Nat → Int32} (hL : L ≤ 2560) (C0 : lw_At p s m meth c b L xs) (hKN : th_K Y s) (hts : ∀ w ∈ th_G, w.before #[Value.ref b] s = true) (hT : th_T (fun q : Nat => s.heap.size ≤ q) s) (hnc : th_nc s) (g o oo : Nat) (S : th_S) (i : Nat) (hi : i + 5 ≤ L) {H : Heap} {locs : List Loc} {cells slots : Nat} (hcl : cells + 8 ≤ 601024) (hsl : slots + 400 ≤ 7293034) (hI : th_LI Y s.heap.size g o oo S H) (hS : va_S (fun q : Nat => s.heap.size ≤ q) s.heap H locs) {ls : Array Slot} (hl : lv_has ls 7 [(0, .ref b), (1, .ref g), (2, .ref o), (3, .ref oo), (4, .int (nI i))]) (hcont : th_LC p l e s m below meth c b Y g o oo i cells slots) : W p l e room_1 s m #[Value.ref b] below meth c H locs cells slots (lw_Z below #[Value.ref b] s) (F0 m 1718 ls []) := by
  obtain ⟨hx, hb, hr, hml, hown, hts9, hX, hbl, hlk, hgv⟩ := id C0
  obtain ⟨hK, hN⟩ := hKN
  have hown : s.vm.findClass RL = some m.cls := hown
  have hbA : ¬ (fun q : Nat => s.heap.size ≤ q) b := Nat.not_le.mpr hbl
  obtain ⟨ro, thr, f9, rfl, hJ, hro, hoo, hR, hO, hg⟩ := hI
  obtain ⟨ad, Vx, B, dsx, kvx, ks, wy, wz, rfl, hAd, hGI⟩ := hg
  have hAA := th_LAA hS.1 hO.lt (th_RGlt hR) hAd
  have hno : ¬ th_gA ad S.1 H.size oo := fun h9 => (hAA _ h9).2.1 rfl
  have hl : lv_has ls 7 [(0, .ref b), (1, .ref (ad 0)), (2, .ref (ro 0)), (3, .ref oo), (4, .int (nI i))] := hl
  refine lv_aload_n hx hb dL_law_1718 rfl (lv_at hl 1 rfl) ?_
  refine lv_aload_n hx hb dL_law_1719 rfl (lv_at hl 0 rfl) ?_
  refine lv_iload hx hb dL_law_1720 (lv_at hl 4 rfl) ?_
  refine lv_iconst (v := nI 1) hx hb dL_law_1722 (by decide) ?_
  refine lv_iadd hx hb dL_law_1723 ?_
  refine th_ti (nI_add _ _) ?_
  refine th_sld hx hb hX hbl hbA hS (j := i + 1) (by omega) hL dL_law_1724 ?_
  refine lv_aload_n hx hb dL_law_1725 rfl (lv_at hl 3 rfl) ?_
  refine thw_callS hx hb hml hown hts ⟨hK, hN⟩ hl hS ⟨hT, rfl, hnc⟩ (rest := []) (c_L_isAlarmed l hl0 Y _ ad S Vx B dsx kvx ks wy wz hGI oo f9 hO hno (xs (i + 1))) tw_3_123 tw_1_0 tw_3_122 (by decide +kernel) (k := 3) tw_3_121 dL_law_1726 rfl rfl (Nat.le_of_ble_eq_true rfl) ⟨(Nat.le_of_ble_eq_true rfl), (Nat.le_of_ble_eq_true rfl)⟩ ⟨hcl, hsl⟩ (fun q9 h9 => h9.elim (fun h8 => (hAA q9 h8).1) (fun e9 => by rw [e9]; exact hoo)) (fun v9 H1 locs hp hsm hS => ?_)
  have hk3 := k3_isAlarmed S (xs (i + 1))
  generalize hre : sp_isAlarmed S (xs (i + 1)) = r at hp hk3
  obtain ⟨rfl, hg1, f1, hO1, hf1⟩ := hp
  obtain ⟨hR, hg⟩ := th_Lw hAA hro hR hg1 (fun q9 h9 => h9) hsm
  have hO := hO1
  refine lv_istore (lv' := [(5, .int (nI r.1)), (0, .ref b), (1, .ref (ad 0)), (2, .ref (ro 0)), (3, .ref oo), (4, .int (nI i))]) hx hb dL_law_1729 hl (by decide) rfl (fun ls hl => ?_)
  refine lv_aload_n hx hb dL_law_1731 rfl (lv_at hl 3 rfl) ?_
  refine lv_aload_n hx hb dL_law_1732 rfl (lv_at hl 1 rfl) ?_
  refine lv_iload hx hb dL_law_1733 (lv_at hl 5 rfl) ?_
  refine lv_iconst (v := nI 1) hx hb dL_law_1735 (by decide) ?_
  refine lv_iadd hx hb dL_law_1736 ?_
  refine th_ti (nI_add _ _) ?_
  refine th_sld hx hb hX hbl hbA hS (j := i + 1) (by omega) hL dL_law_1737 ?_
  obtain ⟨stp, efr, esz, etr, val, siz, tre, spa, pro, bes, isr, key, lev, kvi, ksz, krt, ala, fol, cts, hPr, hvr⟩ := id hR
  obtain ⟨fs9, hB9⟩ := th_RG0 hR
  refine th_callV hx hb hml hown hts ⟨hK, hN⟩ hl hS hB9 rfl (rest := []) (c_X6_isAlarmed l Y _ ro hJ S _ stp efr esz etr val siz tre spa pro bes isr key lev kvi ksz krt ala fol cts hPr hvr (xs (i + 1))) ok_X6_isAlarmed tw_4_158 dL_law_1738 rfl rfl (Nat.le_of_ble_eq_true rfl) ⟨(Nat.le_of_ble_eq_true rfl), (Nat.le_of_ble_eq_true rfl)⟩ ⟨hcl, hsl⟩ (fun q9 h9 => by obtain ⟨j9, hj9, e9⟩ := th_inro h9; rw [← e9]; exact (hro j9 hj9).1) (th_ki (fun x9 H2 locs hp hsm2 hS => ?_))
  rw [hre] at hp
  obtain ⟨hx9, hR⟩ := hp
  obtain ⟨hO, hg⟩ := th_Lm hro hO hg hsm2
  refine lv_istore (lv' := [(6, .int x9), (5, .int (nI r.1)), (0, .ref b), (1, .ref (ad 0)), (2, .ref (ro 0)), (3, .ref oo), (4, .int (nI i))]) hx hb dL_law_1741 hl (by decide) rfl (fun ls hl => ?_)
  refine lv_aload_n hx hb dL_law_1743 rfl (lv_at hl 4 rfl) ?_
  obtain ⟨fs9, hB9⟩ := th_RG0 hR
  refine th_callV hx hb hml hown hts ⟨hK, hN⟩ hl hS hB9 rfl (rest := []) (th_Lthr l hR) ok_X6_thrown tw_3_222 dL_law_1744 rfl rfl (Nat.le_of_ble_eq_true rfl) ⟨(Nat.le_of_ble_eq_true rfl), (Nat.le_of_ble_eq_true rfl)⟩ ⟨hcl, hsl⟩ (fun _ h9 => h9.elim) (th_kpi (fun locs hS => ?_))
  refine lv_iload hx hb dL_law_1747 (lv_at hl 1 rfl) ?_
  refine lv_icmp_eq (tgt := 1754) hx hb dL_law_1749 (by decide) (fun c_1 => ?_) (fun c_1 => by exfalso; exact c_1 rfl)
  refine lv_iload hx hb dL_law_1754 (lv_at hl 1 rfl) ?_
  refine lv_if_ne (tgt := 1778) hx hb dL_law_1756 (by decide) (fun hc9 => ?_) (fun hc9 => ?_)
  · skip
    refine lv_goto (tgt := 1949) hx hb dL_law_1778 (by decide) ?_
    exact hcont _ _ _ _ ⟨ro, _, _, rfl, hJ, hro, hoo, hR, hO, hg⟩ hS (lv_sub hl [2, 3, 4, 5, 6] rfl)
  have hr0 : r.1 = 0 := (th_nI0 hk3).mp hc9
  have hx9 := hx9 hr0
  have hf1 := hf1 hr0
  refine lv_aload_n hx hb dL_law_1759 rfl (lv_at hl 5 rfl) ?_
  refine lv_iconst (v := nI 0) hx hb dL_law_1760 (by decide) ?_
  refine th_lal0 hx hb hK hO dL_law_1761 ?_
  refine lv_iload hx hb dL_law_1762 (lv_at hl 0 rfl) ?_
  have hkb := hre ▸ (kb_isAlarmed hGI.2.2.2.2.2.2.2.2 (xs (i + 1)))
  refine lv_if_eq (tgt := 1771) hx hb dL_law_1764 (by decide) (fun hc8 => ?_) (fun hc8 => ?_)
  · have hfe : f1 0 = (0 : Int64) := hf1.trans (by rw [← hx9, hc8]; rfl)
    refine lv_lconst (v := 0) hx hb dL_law_1771 (by decide) ?_
    refine th_lcmp0 hfe hx hb dL_law_1772 ?_
    refine th_zeq (tgt := 1778) hx hb dL_law_1773 (by decide) (by omega) (fun c_2 => ?_) (fun c_2 => by exfalso; omega)
    refine lv_goto (tgt := 1949) hx hb dL_law_1778 (by decide) ?_
    exact hcont _ _ _ _ ⟨ro, _, _, rfl, hJ, hro, hoo, hR, hO, hg⟩ hS (lv_sub hl [2, 3, 4, 5, 6] rfl)
  have hfe : f1 0 = (1 : Int64) := hf1.trans (by rw [(hkb hr0).resolve_left (fun z9 => hc8 (hx9.trans z9))]; rfl)
  refine lv_lconst (v := 1) hx hb dL_law_1767 (by decide) ?_
  refine lv_goto (tgt := 1772) hx hb dL_law_1768 (by decide) ?_
  refine th_lcmp0 hfe hx hb dL_law_1772 ?_
  refine th_zeq (tgt := 1778) hx hb dL_law_1773 (by decide) (by omega) (fun c_3 => ?_) (fun c_3 => by exfalso; omega)
  refine lv_goto (tgt := 1949) hx hb dL_law_1778 (by decide) ?_
  exact hcont _ _ _ _ ⟨ro, _, _, rfl, hJ, hro, hoo, hR, hO, hg⟩ hS (lv_sub hl [2, 3, 4, 5, 6] rfl)

set_option maxRecDepth 100000 in
set_option maxHeartbeats 1600000 in
theorem law_c26 {p : Program} {e : Env} {s : State} {m : MethodId} {below : List Frame} {meth : Method} {c : Code} (l : Launch) (hl0 : l.stackTraces = false) (Y : th_Y) {b L : Nat} {xs : Nat → Int32} (hL : L ≤ 2560) (C0 : lw_At p s m meth c b L xs) (hKN : th_K Y s) (hts : ∀ w ∈ th_G, w.before #[Value.ref b] s = true) (hT : th_T (fun q : Nat => s.heap.size ≤ q) s) (hnc : th_nc s) (g o oo : Nat) (S : th_S) (i : Nat) (hi : i + 5 ≤ L) {H : Heap} {locs : List Loc} {cells slots : Nat} (hcl : cells + 8 ≤ 601024) (hsl : slots + 400 ≤ 7293034) (hI : th_LI Y s.heap.size g o oo S H) (hS : va_S (fun q : Nat => s.heap.size ≤ q) s.heap H locs) {ls : Array Slot} (hl : lv_has ls 7 [(0, .ref b), (1, .ref g), (2, .ref o), (3, .ref oo), (4, .int (nI i))]) (hcont : th_LC p l e s m below meth c b Y g o oo i cells slots) : W p l e room_1 s m #[Value.ref b] below meth c H locs cells slots (lw_Z below #[Value.ref b] s) (F0 m 1781 ls []) := by
  obtain ⟨hx, hb, hr, hml, hown, hts9, hX, hbl, hlk, hgv⟩ := id C0
  obtain ⟨hK, hN⟩ := hKN
  have hown : s.vm.findClass RL = some m.cls := hown
  have hbA : ¬ (fun q : Nat => s.heap.size ≤ q) b := Nat.not_le.mpr hbl
  obtain ⟨ro, thr, f9, rfl, hJ, hro, hoo, hR, hO, hg⟩ := hI
  obtain ⟨ad, Vx, B, dsx, kvx, ks, wy, wz, rfl, hAd, hGI⟩ := hg
  have hAA := th_LAA hS.1 hO.lt (th_RGlt hR) hAd
  have hno : ¬ th_gA ad S.1 H.size oo := fun h9 => (hAA _ h9).2.1 rfl
  have hl : lv_has ls 7 [(0, .ref b), (1, .ref (ad 0)), (2, .ref (ro 0)), (3, .ref oo), (4, .int (nI i))] := hl
  refine lv_aload_n hx hb dL_law_1781 rfl (lv_at hl 1 rfl) ?_
  refine lv_aload_n hx hb dL_law_1782 rfl (lv_at hl 0 rfl) ?_
  refine lv_iload hx hb dL_law_1783 (lv_at hl 4 rfl) ?_
  refine lv_iconst (v := nI 1) hx hb dL_law_1785 (by decide) ?_
  refine lv_iadd hx hb dL_law_1786 ?_
  refine th_ti (nI_add _ _) ?_
  refine th_sld hx hb hX hbl hbA hS (j := i + 1) (by omega) hL dL_law_1787 ?_
  refine lv_aload_n hx hb dL_law_1788 rfl (lv_at hl 3 rfl) ?_
  refine thw_callS hx hb hml hown hts ⟨hK, hN⟩ hl hS ⟨hT, rfl, hnc⟩ (rest := []) (c_L_keptSize l hl0 Y _ ad S Vx B dsx kvx ks wy wz hGI oo f9 hO hno (xs (i + 1))) tw_3_130 tw_1_0 tw_3_129 (by decide +kernel) (k := 3) tw_3_128 dL_law_1789 rfl rfl (Nat.le_of_ble_eq_true rfl) ⟨(Nat.le_of_ble_eq_true rfl), (Nat.le_of_ble_eq_true rfl)⟩ ⟨hcl, hsl⟩ (fun q9 h9 => h9.elim (fun h8 => (hAA q9 h8).1) (fun e9 => by rw [e9]; exact hoo)) (fun v9 H1 locs hp hsm hS => ?_)
  have hk3 := k3_keptSize S (xs (i + 1))
  generalize hre : sp_keptSize S (xs (i + 1)) = r at hp hk3
  obtain ⟨rfl, hg1, f1, hO1, hf1⟩ := hp
  obtain ⟨hR, hg⟩ := th_Lw hAA hro hR hg1 (fun q9 h9 => h9) hsm
  have hO := hO1
  refine lv_istore (lv' := [(5, .int (nI r.1)), (0, .ref b), (1, .ref (ad 0)), (2, .ref (ro 0)), (3, .ref oo), (4, .int (nI i))]) hx hb dL_law_1792 hl (by decide) rfl (fun ls hl => ?_)
  refine lv_aload_n hx hb dL_law_1794 rfl (lv_at hl 3 rfl) ?_
  refine lv_aload_n hx hb dL_law_1795 rfl (lv_at hl 1 rfl) ?_
  refine lv_iload hx hb dL_law_1796 (lv_at hl 5 rfl) ?_
  refine lv_iconst (v := nI 1) hx hb dL_law_1798 (by decide) ?_
  refine lv_iadd hx hb dL_law_1799 ?_
  refine th_ti (nI_add _ _) ?_
  refine th_sld hx hb hX hbl hbA hS (j := i + 1) (by omega) hL dL_law_1800 ?_
  obtain ⟨stp, efr, esz, etr, val, siz, tre, spa, pro, bes, isr, key, lev, kvi, ksz, krt, ala, fol, cts, hPr, hvr⟩ := id hR
  obtain ⟨fs9, hB9⟩ := th_RG0 hR
  refine th_callV hx hb hml hown hts ⟨hK, hN⟩ hl hS hB9 rfl (rest := []) (c_X6_keptSize l Y _ ro hJ S _ stp efr esz etr val siz tre spa pro bes isr key lev kvi ksz krt ala fol cts hPr hvr (xs (i + 1))) ok_X6_keptSize tw_4_162 dL_law_1801 rfl rfl (Nat.le_of_ble_eq_true rfl) ⟨(Nat.le_of_ble_eq_true rfl), (Nat.le_of_ble_eq_true rfl)⟩ ⟨hcl, hsl⟩ (fun q9 h9 => by obtain ⟨j9, hj9, e9⟩ := th_inro h9; rw [← e9]; exact (hro j9 hj9).1) (th_ki (fun x9 H2 locs hp hsm2 hS => ?_))
  rw [hre] at hp
  obtain ⟨hx9, hR⟩ := hp
  obtain ⟨hO, hg⟩ := th_Lm hro hO hg hsm2
  refine lv_istore (lv' := [(6, .int x9), (5, .int (nI r.1)), (0, .ref b), (1, .ref (ad 0)), (2, .ref (ro 0)), (3, .ref oo), (4, .int (nI i))]) hx hb dL_law_1804 hl (by decide) rfl (fun ls hl => ?_)
  refine lv_aload_n hx hb dL_law_1806 rfl (lv_at hl 4 rfl) ?_
  obtain ⟨fs9, hB9⟩ := th_RG0 hR
  refine th_callV hx hb hml hown hts ⟨hK, hN⟩ hl hS hB9 rfl (rest := []) (th_Lthr l hR) ok_X6_thrown tw_3_222 dL_law_1807 rfl rfl (Nat.le_of_ble_eq_true rfl) ⟨(Nat.le_of_ble_eq_true rfl), (Nat.le_of_ble_eq_true rfl)⟩ ⟨hcl, hsl⟩ (fun _ h9 => h9.elim) (th_kpi (fun locs hS => ?_))
  refine lv_iload hx hb dL_law_1810 (lv_at hl 1 rfl) ?_
  refine lv_icmp_eq (tgt := 1817) hx hb dL_law_1812 (by decide) (fun c_1 => ?_) (fun c_1 => by exfalso; exact c_1 rfl)
  refine lv_iload hx hb dL_law_1817 (lv_at hl 1 rfl) ?_
  refine lv_if_ne (tgt := 1834) hx hb dL_law_1819 (by decide) (fun hc9 => ?_) (fun hc9 => ?_)
  · skip
    refine lv_goto (tgt := 1949) hx hb dL_law_1834 (by decide) ?_
    exact hcont _ _ _ _ ⟨ro, _, _, rfl, hJ, hro, hoo, hR, hO, hg⟩ hS (lv_sub hl [2, 3, 4, 5, 6] rfl)
  have hr0 : r.1 = 0 := (th_nI0 hk3).mp hc9
  have hx9 := hx9 hr0
  have hf1 := hf1 hr0
  refine lv_aload_n hx hb dL_law_1822 rfl (lv_at hl 5 rfl) ?_
  refine lv_iconst (v := nI 0) hx hb dL_law_1823 (by decide) ?_
  refine th_lal0 hx hb hK hO dL_law_1824 ?_
  refine lv_iload hx hb dL_law_1825 (lv_at hl 0 rfl) ?_
  refine lv_i2l hx hb dL_law_1827 rfl ?_
  refine th_lcmp0 (hf1.trans (congrArg Int32.toInt64 hx9.symm)) hx hb dL_law_1828 ?_
  refine th_zeq (tgt := 1834) hx hb dL_law_1829 (by decide) (by omega) (fun c_2 => ?_) (fun c_2 => by exfalso; omega)
  refine lv_goto (tgt := 1949) hx hb dL_law_1834 (by decide) ?_
  exact hcont _ _ _ _ ⟨ro, _, _, rfl, hJ, hro, hoo, hR, hO, hg⟩ hS (lv_sub hl [2, 3, 4, 5, 6] rfl)

set_option maxRecDepth 100000 in
set_option maxHeartbeats 1600000 in
theorem law_c27 {p : Program} {e : Env} {s : State} {m : MethodId} {below : List Frame} {meth : Method} {c : Code} (l : Launch) (hl0 : l.stackTraces = false) (Y : th_Y) {b L : Nat} {xs : Nat → Int32} (hL : L ≤ 2560) (C0 : lw_At p s m meth c b L xs) (hKN : th_K Y s) (hts : ∀ w ∈ th_G, w.before #[Value.ref b] s = true) (hT : th_T (fun q : Nat => s.heap.size ≤ q) s) (hnc : th_nc s) (g o oo : Nat) (S : th_S) (i : Nat) (hi : i + 5 ≤ L) {H : Heap} {locs : List Loc} {cells slots : Nat} (hcl : cells + 8 ≤ 601024) (hsl : slots + 400 ≤ 7293034) (hI : th_LI Y s.heap.size g o oo S H) (hS : va_S (fun q : Nat => s.heap.size ≤ q) s.heap H locs) {ls : Array Slot} (hl : lv_has ls 7 [(0, .ref b), (1, .ref g), (2, .ref o), (3, .ref oo), (4, .int (nI i))]) (hcont : th_LC p l e s m below meth c b Y g o oo i cells slots) : W p l e room_1 s m #[Value.ref b] below meth c H locs cells slots (lw_Z below #[Value.ref b] s) (F0 m 1837 ls []) := by
  obtain ⟨hx, hb, hr, hml, hown, hts9, hX, hbl, hlk, hgv⟩ := id C0
  obtain ⟨hK, hN⟩ := hKN
  have hown : s.vm.findClass RL = some m.cls := hown
  have hbA : ¬ (fun q : Nat => s.heap.size ≤ q) b := Nat.not_le.mpr hbl
  obtain ⟨ro, thr, f9, rfl, hJ, hro, hoo, hR, hO, hg⟩ := hI
  obtain ⟨ad, Vx, B, dsx, kvx, ks, wy, wz, rfl, hAd, hGI⟩ := hg
  have hAA := th_LAA hS.1 hO.lt (th_RGlt hR) hAd
  have hno : ¬ th_gA ad S.1 H.size oo := fun h9 => (hAA _ h9).2.1 rfl
  have hl : lv_has ls 7 [(0, .ref b), (1, .ref (ad 0)), (2, .ref (ro 0)), (3, .ref oo), (4, .int (nI i))] := hl
  refine lv_aload_n hx hb dL_law_1837 rfl (lv_at hl 1 rfl) ?_
  refine lv_aload_n hx hb dL_law_1838 rfl (lv_at hl 0 rfl) ?_
  refine lv_iload hx hb dL_law_1839 (lv_at hl 4 rfl) ?_
  refine lv_iconst (v := nI 1) hx hb dL_law_1841 (by decide) ?_
  refine lv_iadd hx hb dL_law_1842 ?_
  refine th_ti (nI_add _ _) ?_
  refine th_sld hx hb hX hbl hbA hS (j := i + 1) (by omega) hL dL_law_1843 ?_
  refine lv_aload_n hx hb dL_law_1844 rfl (lv_at hl 3 rfl) ?_
  refine thw_callS hx hb hml hown hts ⟨hK, hN⟩ hl hS ⟨hT, rfl, hnc⟩ (rest := []) (c_L_keptRoot l hl0 Y _ ad S Vx B dsx kvx ks wy wz hGI oo f9 hO hno (xs (i + 1))) tw_3_137 tw_1_0 tw_3_136 (by decide +kernel) (k := 3) tw_3_135 dL_law_1845 rfl rfl (Nat.le_of_ble_eq_true rfl) ⟨(Nat.le_of_ble_eq_true rfl), (Nat.le_of_ble_eq_true rfl)⟩ ⟨hcl, hsl⟩ (fun q9 h9 => h9.elim (fun h8 => (hAA q9 h8).1) (fun e9 => by rw [e9]; exact hoo)) (fun v9 H1 locs hp hsm hS => ?_)
  have hk3 := k3_keptRoot S (xs (i + 1))
  generalize hre : sp_keptRoot S (xs (i + 1)) = r at hp hk3
  obtain ⟨rfl, hg1, f1, hO1, hf1⟩ := hp
  obtain ⟨hR, hg⟩ := th_Lw hAA hro hR hg1 (fun q9 h9 => h9) hsm
  have hO := hO1
  refine lv_istore (lv' := [(5, .int (nI r.1)), (0, .ref b), (1, .ref (ad 0)), (2, .ref (ro 0)), (3, .ref oo), (4, .int (nI i))]) hx hb dL_law_1848 hl (by decide) rfl (fun ls hl => ?_)
  refine lv_aload_n hx hb dL_law_1850 rfl (lv_at hl 3 rfl) ?_
  refine lv_aload_n hx hb dL_law_1851 rfl (lv_at hl 1 rfl) ?_
  refine lv_iload hx hb dL_law_1852 (lv_at hl 5 rfl) ?_
  refine lv_iconst (v := nI 1) hx hb dL_law_1854 (by decide) ?_
  refine lv_iadd hx hb dL_law_1855 ?_
  refine th_ti (nI_add _ _) ?_
  refine th_sld hx hb hX hbl hbA hS (j := i + 1) (by omega) hL dL_law_1856 ?_
  obtain ⟨stp, efr, esz, etr, val, siz, tre, spa, pro, bes, isr, key, lev, kvi, ksz, krt, ala, fol, cts, hPr, hvr⟩ := id hR
  obtain ⟨fs9, hB9⟩ := th_RG0 hR
  refine th_callV hx hb hml hown hts ⟨hK, hN⟩ hl hS hB9 rfl (rest := []) (c_X6_keptRoot l Y _ ro hJ S _ stp efr esz etr val siz tre spa pro bes isr key lev kvi ksz krt ala fol cts hPr hvr (xs (i + 1))) ok_X6_keptRoot tw_4_166 dL_law_1857 rfl rfl (Nat.le_of_ble_eq_true rfl) ⟨(Nat.le_of_ble_eq_true rfl), (Nat.le_of_ble_eq_true rfl)⟩ ⟨hcl, hsl⟩ (fun q9 h9 => by obtain ⟨j9, hj9, e9⟩ := th_inro h9; rw [← e9]; exact (hro j9 hj9).1) (th_ki (fun x9 H2 locs hp hsm2 hS => ?_))
  rw [hre] at hp
  obtain ⟨hx9, hR⟩ := hp
  obtain ⟨hO, hg⟩ := th_Lm hro hO hg hsm2
  refine lv_istore (lv' := [(6, .int x9), (5, .int (nI r.1)), (0, .ref b), (1, .ref (ad 0)), (2, .ref (ro 0)), (3, .ref oo), (4, .int (nI i))]) hx hb dL_law_1860 hl (by decide) rfl (fun ls hl => ?_)
  refine lv_aload_n hx hb dL_law_1862 rfl (lv_at hl 4 rfl) ?_
  obtain ⟨fs9, hB9⟩ := th_RG0 hR
  refine th_callV hx hb hml hown hts ⟨hK, hN⟩ hl hS hB9 rfl (rest := []) (th_Lthr l hR) ok_X6_thrown tw_3_222 dL_law_1863 rfl rfl (Nat.le_of_ble_eq_true rfl) ⟨(Nat.le_of_ble_eq_true rfl), (Nat.le_of_ble_eq_true rfl)⟩ ⟨hcl, hsl⟩ (fun _ h9 => h9.elim) (th_kpi (fun locs hS => ?_))
  refine lv_iload hx hb dL_law_1866 (lv_at hl 1 rfl) ?_
  refine lv_icmp_eq (tgt := 1873) hx hb dL_law_1868 (by decide) (fun c_1 => ?_) (fun c_1 => by exfalso; exact c_1 rfl)
  refine lv_iload hx hb dL_law_1873 (lv_at hl 1 rfl) ?_
  refine lv_if_ne (tgt := 1890) hx hb dL_law_1875 (by decide) (fun hc9 => ?_) (fun hc9 => ?_)
  · skip
    refine lv_goto (tgt := 1949) hx hb dL_law_1890 (by decide) ?_
    exact hcont _ _ _ _ ⟨ro, _, _, rfl, hJ, hro, hoo, hR, hO, hg⟩ hS (lv_sub hl [2, 3, 4, 5, 6] rfl)
  have hr0 : r.1 = 0 := (th_nI0 hk3).mp hc9
  have hx9 := hx9 hr0
  have hf1 := hf1 hr0
  refine lv_aload_n hx hb dL_law_1878 rfl (lv_at hl 5 rfl) ?_
  refine lv_iconst (v := nI 0) hx hb dL_law_1879 (by decide) ?_
  refine th_lal0 hx hb hK hO dL_law_1880 ?_
  refine lv_iload hx hb dL_law_1881 (lv_at hl 0 rfl) ?_
  refine lv_i2l hx hb dL_law_1883 rfl ?_
  refine th_lcmp0 (hf1.trans (congrArg Int32.toInt64 hx9.symm)) hx hb dL_law_1884 ?_
  refine th_zeq (tgt := 1890) hx hb dL_law_1885 (by decide) (by omega) (fun c_2 => ?_) (fun c_2 => by exfalso; omega)
  refine lv_goto (tgt := 1949) hx hb dL_law_1890 (by decide) ?_
  exact hcont _ _ _ _ ⟨ro, _, _, rfl, hJ, hro, hoo, hR, hO, hg⟩ hS (lv_sub hl [2, 3, 4, 5, 6] rfl)

set_option maxRecDepth 100000 in
set_option maxHeartbeats 1600000 in
theorem law_c28 {p : Program} {e : Env} {s : State} {m : MethodId} {below : List Frame} {meth : Method} {c : Code} (l : Launch) (hl0 : l.stackTraces = false) (Y : th_Y) {b L : Nat} {xs : Nat → Int32} (hL : L ≤ 2560) (C0 : lw_At p s m meth c b L xs) (hKN : th_K Y s) (hts : ∀ w ∈ th_G, w.before #[Value.ref b] s = true) (hT : th_T (fun q : Nat => s.heap.size ≤ q) s) (hnc : th_nc s) (g o oo : Nat) (S : th_S) (i : Nat) (hi : i + 5 ≤ L) {H : Heap} {locs : List Loc} {cells slots : Nat} (hcl : cells + 8 ≤ 601024) (hsl : slots + 400 ≤ 7293034) (hI : th_LI Y s.heap.size g o oo S H) (hS : va_S (fun q : Nat => s.heap.size ≤ q) s.heap H locs) {ls : Array Slot} (hl : lv_has ls 7 [(0, .ref b), (1, .ref g), (2, .ref o), (3, .ref oo), (4, .int (nI i))]) (hcont : th_LC p l e s m below meth c b Y g o oo i cells slots) : W p l e room_1 s m #[Value.ref b] below meth c H locs cells slots (lw_Z below #[Value.ref b] s) (F0 m 1893 ls []) := by
  obtain ⟨hx, hb, hr, hml, hown, hts9, hX, hbl, hlk, hgv⟩ := id C0
  obtain ⟨hK, hN⟩ := hKN
  have hown : s.vm.findClass RL = some m.cls := hown
  have hbA : ¬ (fun q : Nat => s.heap.size ≤ q) b := Nat.not_le.mpr hbl
  obtain ⟨ro, thr, f9, rfl, hJ, hro, hoo, hR, hO, hg⟩ := hI
  obtain ⟨ad, Vx, B, dsx, kvx, ks, wy, wz, rfl, hAd, hGI⟩ := hg
  have hAA := th_LAA hS.1 hO.lt (th_RGlt hR) hAd
  have hno : ¬ th_gA ad S.1 H.size oo := fun h9 => (hAA _ h9).2.1 rfl
  have hl : lv_has ls 7 [(0, .ref b), (1, .ref (ad 0)), (2, .ref (ro 0)), (3, .ref oo), (4, .int (nI i))] := hl
  refine lv_aload_n hx hb dL_law_1893 rfl (lv_at hl 1 rfl) ?_
  refine lv_aload_n hx hb dL_law_1894 rfl (lv_at hl 0 rfl) ?_
  refine lv_iload hx hb dL_law_1895 (lv_at hl 4 rfl) ?_
  refine lv_iconst (v := nI 1) hx hb dL_law_1897 (by decide) ?_
  refine lv_iadd hx hb dL_law_1898 ?_
  refine th_ti (nI_add _ _) ?_
  refine th_sld hx hb hX hbl hbA hS (j := i + 1) (by omega) hL dL_law_1899 ?_
  refine lv_aload_n hx hb dL_law_1900 rfl (lv_at hl 3 rfl) ?_
  refine thw_callS hx hb hml hown hts ⟨hK, hN⟩ hl hS ⟨hT, rfl, hnc⟩ (rest := []) (c_L_counted l hl0 Y _ ad S Vx B dsx kvx ks wy wz hGI oo f9 hO hno (xs (i + 1))) tw_3_144 tw_1_0 tw_3_143 (by decide +kernel) (k := 3) tw_3_142 dL_law_1901 rfl rfl (Nat.le_of_ble_eq_true rfl) ⟨(Nat.le_of_ble_eq_true rfl), (Nat.le_of_ble_eq_true rfl)⟩ ⟨hcl, hsl⟩ (fun q9 h9 => h9.elim (fun h8 => (hAA q9 h8).1) (fun e9 => by rw [e9]; exact hoo)) (fun v9 H1 locs hp hsm hS => ?_)
  have hk3 := k3_counted S (xs (i + 1))
  generalize hre : sp_counted S (xs (i + 1)) = r at hp hk3
  obtain ⟨rfl, hg1, f1, hO1, hf1⟩ := hp
  obtain ⟨hR, hg⟩ := th_Lw hAA hro hR hg1 (fun q9 h9 => h9) hsm
  have hO := hO1
  refine lv_istore (lv' := [(5, .int (nI r.1)), (0, .ref b), (1, .ref (ad 0)), (2, .ref (ro 0)), (3, .ref oo), (4, .int (nI i))]) hx hb dL_law_1904 hl (by decide) rfl (fun ls hl => ?_)
  refine lv_aload_n hx hb dL_law_1906 rfl (lv_at hl 3 rfl) ?_
  refine lv_aload_n hx hb dL_law_1907 rfl (lv_at hl 1 rfl) ?_
  refine lv_iload hx hb dL_law_1908 (lv_at hl 5 rfl) ?_
  refine lv_iconst (v := nI 1) hx hb dL_law_1910 (by decide) ?_
  refine lv_iadd hx hb dL_law_1911 ?_
  refine th_ti (nI_add _ _) ?_
  refine th_sld hx hb hX hbl hbA hS (j := i + 1) (by omega) hL dL_law_1912 ?_
  obtain ⟨stp, efr, esz, etr, val, siz, tre, spa, pro, bes, isr, key, lev, kvi, ksz, krt, ala, fol, cts, hPr, hvr⟩ := id hR
  obtain ⟨fs9, hB9⟩ := th_RG0 hR
  refine th_callV hx hb hml hown hts ⟨hK, hN⟩ hl hS hB9 rfl (rest := []) (c_X6_counted l Y _ ro hJ S _ stp efr esz etr val siz tre spa pro bes isr key lev kvi ksz krt ala fol cts hPr hvr (xs (i + 1))) ok_X6_counted tw_4_170 dL_law_1913 rfl rfl (Nat.le_of_ble_eq_true rfl) ⟨(Nat.le_of_ble_eq_true rfl), (Nat.le_of_ble_eq_true rfl)⟩ ⟨hcl, hsl⟩ (fun q9 h9 => by obtain ⟨j9, hj9, e9⟩ := th_inro h9; rw [← e9]; exact (hro j9 hj9).1) (th_ki (fun x9 H2 locs hp hsm2 hS => ?_))
  rw [hre] at hp
  obtain ⟨hx9, hR⟩ := hp
  obtain ⟨hO, hg⟩ := th_Lm hro hO hg hsm2
  refine lv_istore (lv' := [(6, .int x9), (5, .int (nI r.1)), (0, .ref b), (1, .ref (ad 0)), (2, .ref (ro 0)), (3, .ref oo), (4, .int (nI i))]) hx hb dL_law_1916 hl (by decide) rfl (fun ls hl => ?_)
  refine lv_aload_n hx hb dL_law_1918 rfl (lv_at hl 4 rfl) ?_
  obtain ⟨fs9, hB9⟩ := th_RG0 hR
  refine th_callV hx hb hml hown hts ⟨hK, hN⟩ hl hS hB9 rfl (rest := []) (th_Lthr l hR) ok_X6_thrown tw_3_222 dL_law_1919 rfl rfl (Nat.le_of_ble_eq_true rfl) ⟨(Nat.le_of_ble_eq_true rfl), (Nat.le_of_ble_eq_true rfl)⟩ ⟨hcl, hsl⟩ (fun _ h9 => h9.elim) (th_kpi (fun locs hS => ?_))
  refine lv_iload hx hb dL_law_1922 (lv_at hl 1 rfl) ?_
  refine lv_icmp_eq (tgt := 1929) hx hb dL_law_1924 (by decide) (fun c_1 => ?_) (fun c_1 => by exfalso; exact c_1 rfl)
  refine lv_iload hx hb dL_law_1929 (lv_at hl 1 rfl) ?_
  refine lv_if_ne (tgt := 1946) hx hb dL_law_1931 (by decide) (fun hc9 => ?_) (fun hc9 => ?_)
  · skip
    refine lv_goto (tgt := 1949) hx hb dL_law_1946 (by decide) ?_
    exact hcont _ _ _ _ ⟨ro, _, _, rfl, hJ, hro, hoo, hR, hO, hg⟩ hS (lv_sub hl [2, 3, 4, 5, 6] rfl)
  have hr0 : r.1 = 0 := (th_nI0 hk3).mp hc9
  have hx9 := hx9 hr0
  have hf1 := hf1 hr0
  refine lv_aload_n hx hb dL_law_1934 rfl (lv_at hl 5 rfl) ?_
  refine lv_iconst (v := nI 0) hx hb dL_law_1935 (by decide) ?_
  refine th_lal0 hx hb hK hO dL_law_1936 ?_
  refine lv_iload hx hb dL_law_1937 (lv_at hl 0 rfl) ?_
  refine lv_i2l hx hb dL_law_1939 rfl ?_
  refine th_lcmp0 (hf1.trans (congrArg Int32.toInt64 hx9.symm)) hx hb dL_law_1940 ?_
  refine th_zeq (tgt := 1946) hx hb dL_law_1941 (by decide) (by omega) (fun c_2 => ?_) (fun c_2 => by exfalso; omega)
  refine lv_goto (tgt := 1949) hx hb dL_law_1946 (by decide) ?_
  exact hcont _ _ _ _ ⟨ro, _, _, rfl, hJ, hro, hoo, hR, hO, hg⟩ hS (lv_sub hl [2, 3, 4, 5, 6] rfl)

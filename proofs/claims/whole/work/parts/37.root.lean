set_option maxRecDepth 100000 in
set_option maxHeartbeats 800000 in
theorem c_X6_rootOf (l : Launch) (Y : th_Y) (H0 : Heap) (ro : Nat → Nat) (thr stp efr esz etr : Int32) (vw sm : Nat) (val tre spa : Nat → Int32) (hP : va_P Y.1 vwCl [(ro 0, .inr (6, [.int thr, .ref (ro 1), .ref (ro 2), .int (nI vw), .ref (ro 3), .ref (ro 4), .ref (ro 5), .int (nI sm), .ref (ro 6), .ref (ro 7), .int stp, .int efr, .int esz, .int etr, .ref (ro 8), .ref (ro 9), .ref (ro 10), .ref (ro 11), .ref (ro 12), .ref (ro 13), .ref (ro 14), .ref (ro 15)])), (ro 1, .inl (Y.2 0, 300, .inl val)), (ro 3, .inl (Y.2 0, 8, .inl tre)), (ro 4, .inl (Y.2 0, 8, .inl spa))] H0) (hD0 : va_D (fun _ => True) [(ro 0, .inr (6, [.int thr, .ref (ro 1), .ref (ro 2), .int (nI vw), .ref (ro 3), .ref (ro 4), .ref (ro 5), .int (nI sm), .ref (ro 6), .ref (ro 7), .int stp, .int efr, .int esz, .int etr, .ref (ro 8), .ref (ro 9), .ref (ro 10), .ref (ro 11), .ref (ro 12), .ref (ro 13), .ref (ro 14), .ref (ro 15)])), (ro 1, .inl (Y.2 0, 300, .inl val)), (ro 3, .inl (Y.2 0, 8, .inl tre)), (ro 4, .inl (Y.2 0, 8, .inl spa))]) (i a0 m0 : Nat) (hi : i < 3) (ha0 : a0 + m0 ≤ 100) : th_M l Y yX6_rootOf cX6_rootOf 7 (some .int) (th_rm 1 0 0) [.ref (ro 0), .int (nI i), .int (nI a0), .int (nI m0)] H0 (fun z => z ∈ [ro 0, ro 1, ro 3, ro 4]) (fun r' H' => ∃ x' : Int32, r' = some (.int x') ∧ x' = th_rt (fun j9 => val (100 * i + j9)) a0 m0 ∧ ∃ tre' spa', va_P Y.1 vwCl [(ro 0, .inr (6, [.int thr, .ref (ro 1), .ref (ro 2), .int (nI vw), .ref (ro 3), .ref (ro 4), .ref (ro 5), .int (nI sm), .ref (ro 6), .ref (ro 7), .int stp, .int efr, .int esz, .int etr, .ref (ro 8), .ref (ro 9), .ref (ro 10), .ref (ro 11), .ref (ro 12), .ref (ro 13), .ref (ro 14), .ref (ro 15)])), (ro 1, .inl (Y.2 0, 300, .inl val)), (ro 3, .inl (Y.2 0, 8, .inl tre')), (ro 4, .inl (Y.2 0, 8, .inl spa'))] H') := by
  refine th_M.intro (by decide) (Nat.le_of_ble_eq_true rfl) ?_
  intro p e s m args below meth c ls Q hQ C hKN hl hS
  obtain ⟨hx, hb, hr, hml, hown, hts, hlk, hnm⟩ := C
  obtain ⟨hK, hN⟩ := hKN
  have hown : s.vm.findClass RX6 = some m.cls := hown
  have hl : lv_has ls 7 [(0, .ref (ro 0)), (1, .int (nI i)), (2, .int (nI a0)), (3, .int (nI m0))] := hl
  have hD : va_D (fun z => z ∈ [ro 0, ro 1, ro 3, ro 4]) [(ro 0, .inr (6, [.int thr, .ref (ro 1), .ref (ro 2), .int (nI vw), .ref (ro 3), .ref (ro 4), .ref (ro 5), .int (nI sm), .ref (ro 6), .ref (ro 7), .int stp, .int efr, .int esz, .int etr, .ref (ro 8), .ref (ro 9), .ref (ro 10), .ref (ro 11), .ref (ro 12), .ref (ro 13), .ref (ro 14), .ref (ro 15)])), (ro 1, .inl (Y.2 0, 300, .inl val)), (ro 3, .inl (Y.2 0, 8, .inl tre)), (ro 4, .inl (Y.2 0, 8, .inl spa))] := th_mem hD0
  refine lv_iconst (v := nI 0) hx hb dX6_rootOf_0 (by decide) ?_
  refine lv_istore (lv' := [(4, .int (nI 0)), (0, .ref (ro 0)), (1, .int (nI i)), (2, .int (nI a0)), (3, .int (nI m0))]) hx hb dX6_rootOf_1 hl (by decide) rfl (fun ls hl => ?_)
  refine lv_iconst (v := nI 0) hx hb dX6_rootOf_3 (by decide) ?_
  refine lv_istore (lv' := [(5, .int (nI 0)), (4, .int (nI 0)), (0, .ref (ro 0)), (1, .int (nI i)), (2, .int (nI a0)), (3, .int (nI m0))]) hx hb dX6_rootOf_4 hl (by decide) rfl (fun ls hl => ?_)
  have lp_1 : ∀ (n_2 : Nat) (c9 : Nat) (lf : Nat) (tre9 : Nat → Int32) (spa9 : Nat → Int32) (e9 : Nat → Nat) (H : Heap) (locs : List Loc) (ls : Array Slot), m0 - c9 < n_2 → (c9 ≤ m0) → (th_SK (fun j9 => val (100 * i + j9)) a0 tre9 spa9 e9 lf) → (th_de e9 lf) → (th_of e9 lf = c9) → va_P Y.1 vwCl [(ro 0, .inr (6, [.int thr, .ref (ro 1), .ref (ro 2), .int (nI vw), .ref (ro 3), .ref (ro 4), .ref (ro 5), .int (nI sm), .ref (ro 6), .ref (ro 7), .int stp, .int efr, .int esz, .int etr, .ref (ro 8), .ref (ro 9), .ref (ro 10), .ref (ro 11), .ref (ro 12), .ref (ro 13), .ref (ro 14), .ref (ro 15)])), (ro 1, .inl (Y.2 0, 300, .inl val)), (ro 3, .inl (Y.2 0, 8, .inl tre9)), (ro 4, .inl (Y.2 0, 8, .inl spa9))] H → va_D (fun z => z ∈ [ro 0, ro 1, ro 3, ro 4]) [(ro 0, .inr (6, [.int thr, .ref (ro 1), .ref (ro 2), .int (nI vw), .ref (ro 3), .ref (ro 4), .ref (ro 5), .int (nI sm), .ref (ro 6), .ref (ro 7), .int stp, .int efr, .int esz, .int etr, .ref (ro 8), .ref (ro 9), .ref (ro 10), .ref (ro 11), .ref (ro 12), .ref (ro 13), .ref (ro 14), .ref (ro 15)])), (ro 1, .inl (Y.2 0, 300, .inl val)), (ro 3, .inl (Y.2 0, 8, .inl tre9)), (ro 4, .inl (Y.2 0, 8, .inl spa9))] → va_S (fun z => z ∈ [ro 0, ro 1, ro 3, ro 4]) H0 H locs → lv_has ls 7 [(0, .ref (ro 0)), (1, .int (nI i)), (2, .int (nI a0)), (3, .int (nI m0)), (4, .int (nI lf)), (5, .int (nI c9))] → W p l e (th_rm 1 0 0) s m args below meth c H locs 0 0 Q (F0 m 6 ls []) := by
    intro n_2; induction n_2 with
    | zero => intros; exfalso; omega
    | succ n_2 ih_3 =>
      intro c9 lf tre9 spa9 e9 H locs ls hmz hc9 hSK hde hof hP hD hS hl
      have hl7 := th_l7 hde hof (by omega)
      refine lv_iload hx hb dX6_rootOf_6 (lv_at hl 5 rfl) ?_
      refine lv_iload_n hx hb dX6_rootOf_8 rfl (lv_at hl 3 rfl) ?_
      refine th_ige (tgt := 127) hx hb dX6_rootOf_9 (by decide) (by omega) (by omega) (fun c_4 => ?_) (fun c_4 => ?_)
      · skip
        have ec : c9 = m0 := by omega
        have hofm : th_of e9 lf = m0 := hof.trans ec
        by_cases h0 : lf = 0
        · skip
          refine lv_iload hx hb dX6_rootOf_127 (lv_at hl 4 rfl) ?_
          refine th_zne (tgt := 136) hx hb dX6_rootOf_129 (by decide) (by omega) (fun c_5 => by exfalso; omega) (fun c_5 => ?_)
          refine lv_iconst (v := nI 0) hx hb dX6_rootOf_132 (by decide) ?_
          refine lv_goto (tgt := 145) hx hb dX6_rootOf_133 (by decide) ?_
          refine lv_istore (lv' := [(5, .int (nI 0)), (0, .ref (ro 0)), (1, .int (nI i)), (2, .int (nI a0)), (3, .int (nI m0)), (4, .int (nI lf))]) hx hb dX6_rootOf_145 hl (by decide) rfl (fun ls hl => ?_)
          refine lv_iload hx hb dX6_rootOf_147 (lv_at hl 5 rfl) ?_
          refine lv_iconst (v := nI 2) hx hb dX6_rootOf_149 (by decide) ?_
          refine lv_isub hx hb dX6_rootOf_150 ?_
          refine th_ti (show (nI lf) - (nI 2) = -2 from by rw [h0]; rfl) ?_
          refine lv_istore (lv' := [(6, .int (-2)), (5, .int (nI 0)), (0, .ref (ro 0)), (1, .int (nI i)), (2, .int (nI a0)), (3, .int (nI m0)), (4, .int (nI lf))]) hx hb dX6_rootOf_151 hl (by decide) rfl (fun ls hl => ?_)
          refine lv_iload hx hb dX6_rootOf_153 (lv_at hl 0 rfl) ?_
          refine lv_if_lt (tgt := 178) hx hb dX6_rootOf_155 (by decide) (fun c_6 => ?_) (fun c_6 => by exfalso; exact absurd (by decide) c_6)
          refine lv_iload hx hb dX6_rootOf_178 (lv_at hl 1 rfl) ?_
          refine th_iret hx hb hr hlk hQ hS dX6_rootOf_180 (Nat.le_of_ble_eq_true rfl) (Nat.le_of_ble_eq_true rfl) ?_
          have em : m0 = 0 := by rw [h0] at hofm; exact hofm.symm
          exact ⟨_, rfl, by rw [em, th_rt_0]; rfl, _, _, hP⟩
        · skip
          refine lv_iload hx hb dX6_rootOf_127 (lv_at hl 4 rfl) ?_
          refine th_zne (tgt := 136) hx hb dX6_rootOf_129 (by decide) (by omega) (fun c_7 => ?_) (fun c_7 => by exfalso; omega)
          refine lv_aload_n hx hb dX6_rootOf_136 rfl (lv_at hl 0 rfl) ?_
          refine va_get (D := Y.1) (ci := 6) (v := .ref (ro 3)) (C := RX6) (T := TX6) (N := 22) hx hb hts inX6 hown hK hP 0 rfl rfl 4 (by decide) (hts _ tw_3_159) (fun _ h9 => h9) rfl dX6_rootOf_137 ?_
          refine lv_iload hx hb dX6_rootOf_140 (lv_at hl 4 rfl) ?_
          refine lv_iconst (v := nI 1) hx hb dX6_rootOf_142 (by decide) ?_
          refine lv_isub hx hb dX6_rootOf_143 ?_
          refine th_ti (pk_sub (by omega)) ?_
          refine th_iald hx hb hK hP 2 rfl (j := (lf - 1)) (by omega) (by omega) dX6_rootOf_144 ?_
          refine lv_istore (lv' := [(5, .int (tre9 (lf - 1))), (0, .ref (ro 0)), (1, .int (nI i)), (2, .int (nI a0)), (3, .int (nI m0)), (4, .int (nI lf))]) hx hb dX6_rootOf_145 hl (by decide) rfl (fun ls hl => ?_)
          refine lv_iload hx hb dX6_rootOf_147 (lv_at hl 5 rfl) ?_
          refine lv_iconst (v := nI 2) hx hb dX6_rootOf_149 (by decide) ?_
          refine lv_isub hx hb dX6_rootOf_150 ?_
          refine th_ti (show (nI lf) - (nI 2) = nI (lf - 1) - nI 1 from th_m2 (by omega)) ?_
          refine lv_istore (lv' := [(6, .int (nI (lf - 1) - nI 1)), (5, .int (tre9 (lf - 1))), (0, .ref (ro 0)), (1, .int (nI i)), (2, .int (nI a0)), (3, .int (nI m0)), (4, .int (nI lf))]) hx hb dX6_rootOf_151 hl (by decide) rfl (fun ls hl => ?_)
          have lp_8 : ∀ (n_9 : Nat) (t9 : Nat) (x9 : Int32) (H : Heap) (locs : List Loc) (ls : Array Slot), t9 < n_9 → (t9 < lf) → (x9 = th_rt (fun j9 => val (100 * i + j9)) (a0 + th_of e9 t9) (m0 - th_of e9 t9)) → va_P Y.1 vwCl [(ro 0, .inr (6, [.int thr, .ref (ro 1), .ref (ro 2), .int (nI vw), .ref (ro 3), .ref (ro 4), .ref (ro 5), .int (nI sm), .ref (ro 6), .ref (ro 7), .int stp, .int efr, .int esz, .int etr, .ref (ro 8), .ref (ro 9), .ref (ro 10), .ref (ro 11), .ref (ro 12), .ref (ro 13), .ref (ro 14), .ref (ro 15)])), (ro 1, .inl (Y.2 0, 300, .inl val)), (ro 3, .inl (Y.2 0, 8, .inl tre9)), (ro 4, .inl (Y.2 0, 8, .inl spa9))] H → va_D (fun z => z ∈ [ro 0, ro 1, ro 3, ro 4]) [(ro 0, .inr (6, [.int thr, .ref (ro 1), .ref (ro 2), .int (nI vw), .ref (ro 3), .ref (ro 4), .ref (ro 5), .int (nI sm), .ref (ro 6), .ref (ro 7), .int stp, .int efr, .int esz, .int etr, .ref (ro 8), .ref (ro 9), .ref (ro 10), .ref (ro 11), .ref (ro 12), .ref (ro 13), .ref (ro 14), .ref (ro 15)])), (ro 1, .inl (Y.2 0, 300, .inl val)), (ro 3, .inl (Y.2 0, 8, .inl tre9)), (ro 4, .inl (Y.2 0, 8, .inl spa9))] → va_S (fun z => z ∈ [ro 0, ro 1, ro 3, ro 4]) H0 H locs → lv_has ls 7 [(0, .ref (ro 0)), (1, .int (nI i)), (2, .int (nI a0)), (3, .int (nI m0)), (4, .int (nI lf)), (5, .int x9), (6, .int (nI t9 - nI 1))] → W p l e (th_rm 1 0 0) s m args below meth c H locs 0 0 Q (F0 m 153 ls []) := by
            intro n_9; induction n_9 with
            | zero => intros; exfalso; omega
            | succ n_9 ih_10 =>
              intro t9 x9 H locs ls hmz ht9 hx9 hP hD hS hl
              refine lv_iload hx hb dX6_rootOf_153 (lv_at hl 6 rfl) ?_
              by_cases ht0 : t9 = 0
              · skip
                refine th_ti (show nI t9 - nI 1 = -1 from by rw [ht0]; rfl) ?_
                refine lv_if_lt (tgt := 178) hx hb dX6_rootOf_155 (by decide) (fun c_11 => ?_) (fun c_11 => by exfalso; exact absurd (by decide) c_11)
                refine lv_iload hx hb dX6_rootOf_178 (lv_at hl 5 rfl) ?_
                refine th_iret hx hb hr hlk hQ hS dX6_rootOf_180 (Nat.le_of_ble_eq_true rfl) (Nat.le_of_ble_eq_true rfl) ?_
                exact ⟨_, rfl, by rw [hx9, ht0]; rfl, _, _, hP⟩
              · skip
                refine th_ti (pk_sub (by omega)) ?_
                refine th_zlt (tgt := 178) hx hb dX6_rootOf_155 (by decide) (by omega) ?_
                refine lv_aload_n hx hb dX6_rootOf_158 rfl (lv_at hl 0 rfl) ?_
                refine va_get (D := Y.1) (ci := 6) (v := .ref (ro 3)) (C := RX6) (T := TX6) (N := 22) hx hb hts inX6 hown hK hP 0 rfl rfl 4 (by decide) (hts _ tw_3_159) (fun _ h9 => h9) rfl dX6_rootOf_159 ?_
                refine lv_iload hx hb dX6_rootOf_162 (lv_at hl 6 rfl) ?_
                refine th_ti (pk_sub (by omega)) ?_
                refine th_iald hx hb hK hP 2 rfl (j := (t9 - 1)) (by omega) (by omega) dX6_rootOf_164 ?_
                refine lv_iload hx hb dX6_rootOf_165 (lv_at hl 5 rfl) ?_
                refine th_callS hx hb hml hown hts ⟨hK, hN⟩ hl hS (rest := []) (c_X6_mix l Y _ (tre9 (t9 - 1)) x9) ok_X6_mix tw_4_43 dX6_rootOf_167 rfl rfl (Nat.le_of_ble_eq_true rfl) ⟨Nat.le_of_ble_eq_true rfl, Nat.le_of_ble_eq_true rfl⟩ ⟨Nat.le_of_ble_eq_true rfl, Nat.le_of_ble_eq_true rfl⟩ (fun _ h => h.elim) (th_kpi (fun locs hS => ?_))
                refine lv_istore (lv' := [(5, .int (th_mx (tre9 (t9 - 1)) x9)), (0, .ref (ro 0)), (1, .int (nI i)), (2, .int (nI a0)), (3, .int (nI m0)), (4, .int (nI lf)), (6, .int (nI t9 - nI 1))]) hx hb dX6_rootOf_170 hl (by decide) rfl (fun ls hl => ?_)
                refine lv_iinc (v := nI (t9 - 1) - nI 1) (lv' := [(6, .int (nI (t9 - 1) - nI 1)), (5, .int (th_mx (tre9 (t9 - 1)) x9)), (0, .ref (ro 0)), (1, .int (nI i)), (2, .int (nI a0)), (3, .int (nI m0)), (4, .int (nI lf))]) hx hb dX6_rootOf_172 hl (k := 6) rfl ((congrArg (fun z9 => z9 + Int32.ofInt (-1)) (pk_sub (by omega))).trans (th_sm1 _)) (by decide) rfl (fun ls hl => ?_)
                refine lv_goto (tgt := 153) hx hb dX6_rootOf_175 (by decide) ?_
                exact ih_10 (t9 - 1) (th_mx (tre9 (t9 - 1)) x9) _ _ _ (by omega) (by omega) (th_SK_fold hSK hde hofm (by omega) ht9 hx9) hP hD hS (lv_sub hl [2, 3, 4, 5, 6, 1, 0] rfl)
          exact lp_8 (((lf - 1)) + 1) (lf - 1) (tre9 (lf - 1)) _ _ _ (Nat.lt_succ_self _) (by omega) (th_SK_last hSK hofm (by omega)) hP hD hS (lv_sub hl [2, 3, 4, 5, 6, 1, 0] rfl)
      refine lv_aload_n hx hb dX6_rootOf_12 rfl (lv_at hl 0 rfl) ?_
      refine va_get (D := Y.1) (ci := 6) (v := .ref (ro 3)) (C := RX6) (T := TX6) (N := 22) hx hb hts inX6 hown hK hP 0 rfl rfl 4 (by decide) (hts _ tw_3_159) (fun _ h9 => h9) rfl dX6_rootOf_13 ?_
      refine lv_iload hx hb dX6_rootOf_16 (lv_at hl 4 rfl) ?_
      refine lv_aload_n hx hb dX6_rootOf_18 rfl (lv_at hl 0 rfl) ?_
      refine va_get (D := Y.1) (ci := 6) (v := .ref (ro 1)) (C := RX6) (T := TX6) (N := 22) hx hb hts inX6 hown hK hP 0 rfl rfl 1 (by decide) (hts _ tw_3_156) (fun _ h9 => h9) rfl dX6_rootOf_19 ?_
      refine lv_bipush (v := nI 100) hx hb dX6_rootOf_22 (by decide) ?_
      refine lv_iload_n hx hb dX6_rootOf_24 rfl (lv_at hl 1 rfl) ?_
      refine lv_imul hx hb dX6_rootOf_25 ?_
      refine th_ti (pk_mul _ _) ?_
      refine lv_iload_n hx hb dX6_rootOf_26 rfl (lv_at hl 2 rfl) ?_
      refine lv_iadd hx hb dX6_rootOf_27 ?_
      refine th_ti (nI_add _ _) ?_
      refine lv_iload hx hb dX6_rootOf_28 (lv_at hl 5 rfl) ?_
      refine lv_iadd hx hb dX6_rootOf_30 ?_
      refine th_ti (nI_add _ _) ?_
      refine th_iald hx hb hK hP 1 rfl (j := (((100 * i) + a0) + c9)) (by omega) (by omega) dX6_rootOf_31 ?_
      refine th_callS hx hb hml hown hts ⟨hK, hN⟩ hl hS (rest := [.int (nI lf), .ref (ro 3)]) (c_X6_leafSum l Y _ (val (((100 * i) + a0) + c9))) ok_X6_leafSum tw_4_37 dX6_rootOf_32 rfl rfl (Nat.le_of_ble_eq_true rfl) ⟨Nat.le_of_ble_eq_true rfl, Nat.le_of_ble_eq_true rfl⟩ ⟨Nat.le_of_ble_eq_true rfl, Nat.le_of_ble_eq_true rfl⟩ (fun _ h => h.elim) (th_kpi (fun locs hS => ?_))
      refine th_ti (show th_ls (val (((100 * i) + a0) + c9)) = th_ls (val (100 * i + (a0 + c9))) from by rw [Nat.add_assoc]) ?_
      refine th_iast hx hb hK hP hD hS 2 rfl (j := lf) (by omega) (by omega) dX6_rootOf_35 (fun H locs hP hD hS => ?_)
      have hP : va_P Y.1 vwCl [(ro 0, .inr (6, [.int thr, .ref (ro 1), .ref (ro 2), .int (nI vw), .ref (ro 3), .ref (ro 4), .ref (ro 5), .int (nI sm), .ref (ro 6), .ref (ro 7), .int stp, .int efr, .int esz, .int etr, .ref (ro 8), .ref (ro 9), .ref (ro 10), .ref (ro 11), .ref (ro 12), .ref (ro 13), .ref (ro 14), .ref (ro 15)])), (ro 1, .inl (Y.2 0, 300, .inl val)), (ro 3, .inl (Y.2 0, 8, .inl (upd tre9 lf (th_ls (val (100 * i + (a0 + c9))))))), (ro 4, .inl (Y.2 0, 8, .inl spa9))] _ := hP
      have hD : va_D _ [(ro 0, .inr (6, [.int thr, .ref (ro 1), .ref (ro 2), .int (nI vw), .ref (ro 3), .ref (ro 4), .ref (ro 5), .int (nI sm), .ref (ro 6), .ref (ro 7), .int stp, .int efr, .int esz, .int etr, .ref (ro 8), .ref (ro 9), .ref (ro 10), .ref (ro 11), .ref (ro 12), .ref (ro 13), .ref (ro 14), .ref (ro 15)])), (ro 1, .inl (Y.2 0, 300, .inl val)), (ro 3, .inl (Y.2 0, 8, .inl (upd tre9 lf (th_ls (val (100 * i + (a0 + c9))))))), (ro 4, .inl (Y.2 0, 8, .inl spa9))] := hD
      refine lv_aload_n hx hb dX6_rootOf_36 rfl (lv_at hl 0 rfl) ?_
      refine va_get (D := Y.1) (ci := 6) (v := .ref (ro 4)) (C := RX6) (T := TX6) (N := 22) hx hb hts inX6 hown hK hP 0 rfl rfl 5 (by decide) (hts _ tw_3_160) (fun _ h9 => h9) rfl dX6_rootOf_37 ?_
      refine lv_iload hx hb dX6_rootOf_40 (lv_at hl 4 rfl) ?_
      refine lv_iconst (v := nI 1) hx hb dX6_rootOf_42 (by decide) ?_
      refine th_iast hx hb hK hP hD hS 3 rfl (j := lf) (by omega) (by omega) dX6_rootOf_43 (fun H locs hP hD hS => ?_)
      have hP : va_P Y.1 vwCl [(ro 0, .inr (6, [.int thr, .ref (ro 1), .ref (ro 2), .int (nI vw), .ref (ro 3), .ref (ro 4), .ref (ro 5), .int (nI sm), .ref (ro 6), .ref (ro 7), .int stp, .int efr, .int esz, .int etr, .ref (ro 8), .ref (ro 9), .ref (ro 10), .ref (ro 11), .ref (ro 12), .ref (ro 13), .ref (ro 14), .ref (ro 15)])), (ro 1, .inl (Y.2 0, 300, .inl val)), (ro 3, .inl (Y.2 0, 8, .inl (upd tre9 lf (th_ls (val (100 * i + (a0 + c9))))))), (ro 4, .inl (Y.2 0, 8, .inl (upd spa9 lf (nI 1))))] _ := hP
      have hD : va_D _ [(ro 0, .inr (6, [.int thr, .ref (ro 1), .ref (ro 2), .int (nI vw), .ref (ro 3), .ref (ro 4), .ref (ro 5), .int (nI sm), .ref (ro 6), .ref (ro 7), .int stp, .int efr, .int esz, .int etr, .ref (ro 8), .ref (ro 9), .ref (ro 10), .ref (ro 11), .ref (ro 12), .ref (ro 13), .ref (ro 14), .ref (ro 15)])), (ro 1, .inl (Y.2 0, 300, .inl val)), (ro 3, .inl (Y.2 0, 8, .inl (upd tre9 lf (th_ls (val (100 * i + (a0 + c9))))))), (ro 4, .inl (Y.2 0, 8, .inl (upd spa9 lf (nI 1))))] := hD
      refine lv_iinc (v := nI (lf + 1)) (lv' := [(4, .int (nI (lf + 1))), (0, .ref (ro 0)), (1, .int (nI i)), (2, .int (nI a0)), (3, .int (nI m0)), (5, .int (nI c9))]) hx hb dX6_rootOf_44 hl (k := 4) rfl (nI_add _ 1) (by decide) rfl (fun ls hl => ?_)
      have lp_12 : ∀ (n_13 : Nat) (lf2 : Nat) (tre2 : Nat → Int32) (spa2 : Nat → Int32) (e2 : Nat → Nat) (H : Heap) (locs : List Loc) (ls : Array Slot), lf2 < n_13 → (1 ≤ lf2) → (lf2 ≤ 8) → (th_SK (fun j9 => val (100 * i + j9)) a0 tre2 spa2 e2 lf2) → (th_dw e2 lf2) → (th_of e2 lf2 = c9 + 1) → va_P Y.1 vwCl [(ro 0, .inr (6, [.int thr, .ref (ro 1), .ref (ro 2), .int (nI vw), .ref (ro 3), .ref (ro 4), .ref (ro 5), .int (nI sm), .ref (ro 6), .ref (ro 7), .int stp, .int efr, .int esz, .int etr, .ref (ro 8), .ref (ro 9), .ref (ro 10), .ref (ro 11), .ref (ro 12), .ref (ro 13), .ref (ro 14), .ref (ro 15)])), (ro 1, .inl (Y.2 0, 300, .inl val)), (ro 3, .inl (Y.2 0, 8, .inl tre2)), (ro 4, .inl (Y.2 0, 8, .inl spa2))] H → va_D (fun z => z ∈ [ro 0, ro 1, ro 3, ro 4]) [(ro 0, .inr (6, [.int thr, .ref (ro 1), .ref (ro 2), .int (nI vw), .ref (ro 3), .ref (ro 4), .ref (ro 5), .int (nI sm), .ref (ro 6), .ref (ro 7), .int stp, .int efr, .int esz, .int etr, .ref (ro 8), .ref (ro 9), .ref (ro 10), .ref (ro 11), .ref (ro 12), .ref (ro 13), .ref (ro 14), .ref (ro 15)])), (ro 1, .inl (Y.2 0, 300, .inl val)), (ro 3, .inl (Y.2 0, 8, .inl tre2)), (ro 4, .inl (Y.2 0, 8, .inl spa2))] → va_S (fun z => z ∈ [ro 0, ro 1, ro 3, ro 4]) H0 H locs → lv_has ls 7 [(0, .ref (ro 0)), (1, .int (nI i)), (2, .int (nI a0)), (3, .int (nI m0)), (4, .int (nI lf2)), (5, .int (nI c9))] → W p l e (th_rm 1 0 0) s m args below meth c H locs 0 0 Q (F0 m 47 ls []) := by
        intro n_13; induction n_13 with
        | zero => intros; exfalso; omega
        | succ n_13 ih_14 =>
          intro lf2 tre2 spa2 e2 H locs ls hmz hl1 hl8 hSK2 hdw2 hof2 hP hD hS hl
          refine lv_iload hx hb dX6_rootOf_47 (lv_at hl 4 rfl) ?_
          refine lv_iconst (v := nI 1) hx hb dX6_rootOf_49 (by decide) ?_
          refine th_ile (tgt := 121) hx hb dX6_rootOf_50 (by decide) (by omega) (by omega) (fun c_15 => ?_) (fun c_15 => ?_)
          · skip
            refine lv_iinc (v := nI (c9 + 1)) (lv' := [(5, .int (nI (c9 + 1))), (0, .ref (ro 0)), (1, .int (nI i)), (2, .int (nI a0)), (3, .int (nI m0)), (4, .int (nI lf2))]) hx hb dX6_rootOf_121 hl (k := 5) rfl (nI_add _ 1) (by decide) rfl (fun ls hl => ?_)
            refine lv_goto (tgt := 6) hx hb dX6_rootOf_124 (by decide) ?_
            exact ih_3 (c9 + 1) (lf2) (tre2) (spa2) (e2) _ _ _ (by omega) (by omega) (hSK2) (fun k9 h9 => by omega) (hof2) hP hD hS (lv_sub hl [1, 2, 3, 4, 5, 0] rfl)
          have hp1 := th_of_ge (e := e2) (show lf2 - 1 < lf2 by omega)
          have hp2 := th_of_ge (e := e2) (show lf2 - 2 < lf2 by omega)
          rw [hof2] at hp1 hp2
          refine lv_aload_n hx hb dX6_rootOf_53 rfl (lv_at hl 0 rfl) ?_
          refine va_get (D := Y.1) (ci := 6) (v := .ref (ro 4)) (C := RX6) (T := TX6) (N := 22) hx hb hts inX6 hown hK hP 0 rfl rfl 5 (by decide) (hts _ tw_3_160) (fun _ h9 => h9) rfl dX6_rootOf_54 ?_
          refine lv_iload hx hb dX6_rootOf_57 (lv_at hl 4 rfl) ?_
          refine lv_iconst (v := nI 1) hx hb dX6_rootOf_59 (by decide) ?_
          refine lv_isub hx hb dX6_rootOf_60 ?_
          refine th_ti (pk_sub (by omega)) ?_
          refine th_iald hx hb hK hP 3 rfl (j := (lf2 - 1)) (by omega) (by omega) dX6_rootOf_61 ?_
          refine th_ti (show spa2 (lf2 - 1) = nI (2 ^ e2 (lf2 - 1)) from (hSK2 _ (by omega)).1) ?_
          refine lv_aload_n hx hb dX6_rootOf_62 rfl (lv_at hl 0 rfl) ?_
          refine va_get (D := Y.1) (ci := 6) (v := .ref (ro 4)) (C := RX6) (T := TX6) (N := 22) hx hb hts inX6 hown hK hP 0 rfl rfl 5 (by decide) (hts _ tw_3_160) (fun _ h9 => h9) rfl dX6_rootOf_63 ?_
          refine lv_iload hx hb dX6_rootOf_66 (lv_at hl 4 rfl) ?_
          refine lv_iconst (v := nI 2) hx hb dX6_rootOf_68 (by decide) ?_
          refine lv_isub hx hb dX6_rootOf_69 ?_
          refine th_ti (pk_sub (by omega)) ?_
          refine th_iald hx hb hK hP 3 rfl (j := (lf2 - 2)) (by omega) (by omega) dX6_rootOf_70 ?_
          refine th_ti (show spa2 (lf2 - 2) = nI (2 ^ e2 (lf2 - 2)) from (hSK2 _ (by omega)).1) ?_
          refine th_ine (tgt := 121) hx hb dX6_rootOf_71 (by decide) (by omega) (by omega) (fun c_16 => ?_) (fun c_16 => ?_)
          · skip
            refine lv_iinc (v := nI (c9 + 1)) (lv' := [(5, .int (nI (c9 + 1))), (0, .ref (ro 0)), (1, .int (nI i)), (2, .int (nI a0)), (3, .int (nI m0)), (4, .int (nI lf2))]) hx hb dX6_rootOf_121 hl (k := 5) rfl (nI_add _ 1) (by decide) rfl (fun ls hl => ?_)
            refine lv_goto (tgt := 6) hx hb dX6_rootOf_124 (by decide) ?_
            exact ih_3 (c9 + 1) (lf2) (tre2) (spa2) (e2) _ _ _ (by omega) (by omega) (hSK2) (th_dwd hdw2 c_16) (hof2) hP hD hS (lv_sub hl [1, 2, 3, 4, 5, 0] rfl)
          have hmg := th_SK_merge (by omega) hSK2 hdw2 c_16
          refine lv_iinc (v := nI (lf2 - 1)) (lv' := [(4, .int (nI (lf2 - 1))), (0, .ref (ro 0)), (1, .int (nI i)), (2, .int (nI a0)), (3, .int (nI m0)), (5, .int (nI c9))]) hx hb dX6_rootOf_74 hl (k := 4) rfl (th_dec (by omega)) (by decide) rfl (fun ls hl => ?_)
          refine lv_aload_n hx hb dX6_rootOf_77 rfl (lv_at hl 1 rfl) ?_
          refine va_get (D := Y.1) (ci := 6) (v := .ref (ro 3)) (C := RX6) (T := TX6) (N := 22) hx hb hts inX6 hown hK hP 0 rfl rfl 4 (by decide) (hts _ tw_3_159) (fun _ h9 => h9) rfl dX6_rootOf_78 ?_
          refine lv_iload hx hb dX6_rootOf_81 (lv_at hl 0 rfl) ?_
          refine lv_iconst (v := nI 1) hx hb dX6_rootOf_83 (by decide) ?_
          refine lv_isub hx hb dX6_rootOf_84 ?_
          refine th_ti (pk_sub (by omega)) ?_
          refine lv_aload_n hx hb dX6_rootOf_85 rfl (lv_at hl 1 rfl) ?_
          refine va_get (D := Y.1) (ci := 6) (v := .ref (ro 3)) (C := RX6) (T := TX6) (N := 22) hx hb hts inX6 hown hK hP 0 rfl rfl 4 (by decide) (hts _ tw_3_159) (fun _ h9 => h9) rfl dX6_rootOf_86 ?_
          refine lv_iload hx hb dX6_rootOf_89 (lv_at hl 0 rfl) ?_
          refine lv_iconst (v := nI 1) hx hb dX6_rootOf_91 (by decide) ?_
          refine lv_isub hx hb dX6_rootOf_92 ?_
          refine th_ti (pk_sub (by omega)) ?_
          refine th_iald hx hb hK hP 2 rfl (j := ((lf2 - 1) - 1)) (by omega) (by omega) dX6_rootOf_93 ?_
          refine lv_aload_n hx hb dX6_rootOf_94 rfl (lv_at hl 1 rfl) ?_
          refine va_get (D := Y.1) (ci := 6) (v := .ref (ro 3)) (C := RX6) (T := TX6) (N := 22) hx hb hts inX6 hown hK hP 0 rfl rfl 4 (by decide) (hts _ tw_3_159) (fun _ h9 => h9) rfl dX6_rootOf_95 ?_
          refine lv_iload hx hb dX6_rootOf_98 (lv_at hl 0 rfl) ?_
          refine th_iald hx hb hK hP 2 rfl (j := (lf2 - 1)) (by omega) (by omega) dX6_rootOf_100 ?_
          refine th_callS hx hb hml hown hts ⟨hK, hN⟩ hl hS (rest := [.int (nI ((lf2 - 1) - 1)), .ref (ro 3)]) (c_X6_mix l Y _ (tre2 ((lf2 - 1) - 1)) (tre2 (lf2 - 1))) ok_X6_mix tw_4_43 dX6_rootOf_101 rfl rfl (Nat.le_of_ble_eq_true rfl) ⟨Nat.le_of_ble_eq_true rfl, Nat.le_of_ble_eq_true rfl⟩ ⟨Nat.le_of_ble_eq_true rfl, Nat.le_of_ble_eq_true rfl⟩ (fun _ h => h.elim) (th_kpi (fun locs hS => ?_))
          refine th_iast hx hb hK hP hD hS 2 rfl (j := ((lf2 - 1) - 1)) (by omega) (by omega) dX6_rootOf_104 (fun H locs hP hD hS => ?_)
          have hP : va_P Y.1 vwCl [(ro 0, .inr (6, [.int thr, .ref (ro 1), .ref (ro 2), .int (nI vw), .ref (ro 3), .ref (ro 4), .ref (ro 5), .int (nI sm), .ref (ro 6), .ref (ro 7), .int stp, .int efr, .int esz, .int etr, .ref (ro 8), .ref (ro 9), .ref (ro 10), .ref (ro 11), .ref (ro 12), .ref (ro 13), .ref (ro 14), .ref (ro 15)])), (ro 1, .inl (Y.2 0, 300, .inl val)), (ro 3, .inl (Y.2 0, 8, .inl (upd tre2 ((lf2 - 1) - 1) (th_mx (tre2 ((lf2 - 1) - 1)) (tre2 (lf2 - 1)))))), (ro 4, .inl (Y.2 0, 8, .inl spa2))] _ := hP
          have hD : va_D _ [(ro 0, .inr (6, [.int thr, .ref (ro 1), .ref (ro 2), .int (nI vw), .ref (ro 3), .ref (ro 4), .ref (ro 5), .int (nI sm), .ref (ro 6), .ref (ro 7), .int stp, .int efr, .int esz, .int etr, .ref (ro 8), .ref (ro 9), .ref (ro 10), .ref (ro 11), .ref (ro 12), .ref (ro 13), .ref (ro 14), .ref (ro 15)])), (ro 1, .inl (Y.2 0, 300, .inl val)), (ro 3, .inl (Y.2 0, 8, .inl (upd tre2 ((lf2 - 1) - 1) (th_mx (tre2 ((lf2 - 1) - 1)) (tre2 (lf2 - 1)))))), (ro 4, .inl (Y.2 0, 8, .inl spa2))] := hD
          refine lv_aload_n hx hb dX6_rootOf_105 rfl (lv_at hl 1 rfl) ?_
          refine va_get (D := Y.1) (ci := 6) (v := .ref (ro 4)) (C := RX6) (T := TX6) (N := 22) hx hb hts inX6 hown hK hP 0 rfl rfl 5 (by decide) (hts _ tw_3_160) (fun _ h9 => h9) rfl dX6_rootOf_106 ?_
          refine lv_iload hx hb dX6_rootOf_109 (lv_at hl 0 rfl) ?_
          refine lv_iconst (v := nI 1) hx hb dX6_rootOf_111 (by decide) ?_
          refine lv_isub hx hb dX6_rootOf_112 ?_
          refine th_ti (pk_sub (by omega)) ?_
          refine lv_dup2_11 hx hb dX6_rootOf_113 rfl rfl ?_
          refine th_iald hx hb hK hP 3 rfl (j := ((lf2 - 1) - 1)) (by omega) (by omega) dX6_rootOf_114 ?_
          refine th_ti (show spa2 ((lf2 - 1) - 1) = nI (2 ^ e2 (lf2 - 1 - 1)) from (hSK2 _ (by omega)).1) ?_
          refine lv_iconst (v := nI 2) hx hb dX6_rootOf_115 (by decide) ?_
          refine lv_imul hx hb dX6_rootOf_116 ?_
          refine th_ti (pk_mul _ _) ?_
          refine th_iast hx hb hK hP hD hS 3 rfl (j := ((lf2 - 1) - 1)) (by omega) (by omega) dX6_rootOf_117 (fun H locs hP hD hS => ?_)
          have hP : va_P Y.1 vwCl [(ro 0, .inr (6, [.int thr, .ref (ro 1), .ref (ro 2), .int (nI vw), .ref (ro 3), .ref (ro 4), .ref (ro 5), .int (nI sm), .ref (ro 6), .ref (ro 7), .int stp, .int efr, .int esz, .int etr, .ref (ro 8), .ref (ro 9), .ref (ro 10), .ref (ro 11), .ref (ro 12), .ref (ro 13), .ref (ro 14), .ref (ro 15)])), (ro 1, .inl (Y.2 0, 300, .inl val)), (ro 3, .inl (Y.2 0, 8, .inl (upd tre2 ((lf2 - 1) - 1) (th_mx (tre2 ((lf2 - 1) - 1)) (tre2 (lf2 - 1)))))), (ro 4, .inl (Y.2 0, 8, .inl (upd spa2 ((lf2 - 1) - 1) (nI ((2 ^ e2 (lf2 - 1 - 1)) * 2)))))] _ := hP
          have hD : va_D _ [(ro 0, .inr (6, [.int thr, .ref (ro 1), .ref (ro 2), .int (nI vw), .ref (ro 3), .ref (ro 4), .ref (ro 5), .int (nI sm), .ref (ro 6), .ref (ro 7), .int stp, .int efr, .int esz, .int etr, .ref (ro 8), .ref (ro 9), .ref (ro 10), .ref (ro 11), .ref (ro 12), .ref (ro 13), .ref (ro 14), .ref (ro 15)])), (ro 1, .inl (Y.2 0, 300, .inl val)), (ro 3, .inl (Y.2 0, 8, .inl (upd tre2 ((lf2 - 1) - 1) (th_mx (tre2 ((lf2 - 1) - 1)) (tre2 (lf2 - 1)))))), (ro 4, .inl (Y.2 0, 8, .inl (upd spa2 ((lf2 - 1) - 1) (nI ((2 ^ e2 (lf2 - 1 - 1)) * 2)))))] := hD
          refine lv_goto (tgt := 47) hx hb dX6_rootOf_118 (by decide) ?_
          exact ih_14 (lf2 - 1) (upd tre2 (lf2 - 1 - 1) (th_mx (tre2 (lf2 - 1 - 1)) (tre2 (lf2 - 1)))) (upd spa2 (lf2 - 1 - 1) (nI (2 ^ e2 (lf2 - 1 - 1) * 2))) (va_up e2 (lf2 - 1 - 1) (e2 (lf2 - 1 - 1) + 1)) _ _ _ (by omega) (by omega) (by omega) (hmg.1) (hmg.2.1) (hmg.2.2.trans hof2) hP hD hS (lv_sub hl [1, 2, 3, 4, 0, 5] rfl)
      exact lp_12 (((lf + 1)) + 1) (lf + 1) (upd tre9 lf (th_ls (val (100 * i + (a0 + c9))))) (upd spa9 lf (nI 1)) (va_up e9 lf 0) _ _ _ (Nat.lt_succ_self _) (by omega) (by omega) ((th_SK_push hSK hde hof).1) ((th_SK_push hSK hde hof).2.1) ((th_SK_push hSK hde hof).2.2) hP hD hS (lv_sub hl [1, 2, 3, 4, 0, 5] rfl)
  exact lp_1 ((m0 - (0)) + 1) (0) (0) (tre) (spa) ((fun _ => 0)) _ _ _ (Nat.lt_succ_self _) (by omega) (fun k9 h9 => absurd h9 (Nat.not_lt_zero _)) (fun k9 h9 => absurd h9 (Nat.not_lt_zero _)) (rfl) hP hD hS (lv_sub hl [2, 3, 4, 5, 1, 0] rfl)

theorem th_nmA {k : Nat} (h : k < 2147483648) : ¬ nI k = -1 := fun z => by
  have h1 := congrArg Int32.toInt z
  rw [nI_toInt h] at h1
  have h5 : (-1 : Int32).toInt = -1 := by decide
  rw [h5] at h1
  omega
theorem th_a0 (x : Int32) : x + nI 0 = x := by rw [nI_0]; exact Int32.add_zero x
theorem th_updS {f : Nat → Int32} {n : Nat} {x : Int32} (h : x = f n) : ∀ a, upd f n x a = f a := fun a => by
  by_cases z : a = n
  · subst z; exact pk_us.trans h
  · exact pk_un z
theorem th_RvA {S : th_S} {val siz pro key kvi ksz krt ala ala' fol cts : Nat → Int32} (hv : th_RIv S val siz pro key kvi ksz krt ala fol cts) (h : ∀ a, ala' a = ala a) : th_RIv S val siz pro key kvi ksz krt ala' fol cts := by
  have e : ala' = ala := funext h
  rw [e]
  exact hv

set_option maxRecDepth 100000 in
set_option maxHeartbeats 800000 in
theorem c_X6_show (l : Launch) (Y : th_Y) (H0 : Heap) (ro : Nat → Nat) (hJ : th_gJ ro 16) (S : th_S) (thr stp efr esz etr : Int32) (val siz tre spa pro bes isr key lev kvi ksz krt ala fol cts : Nat → Int32) (hP : va_P Y.1 vwCl [(ro 0, .inr (6, [.int thr, .ref (ro 1), .ref (ro 2), .int (nI S.1), .ref (ro 3), .ref (ro 4), .ref (ro 5), .int (nI S.2.2.2.1), .ref (ro 6), .ref (ro 7), .int stp, .int efr, .int esz, .int etr, .ref (ro 8), .ref (ro 9), .ref (ro 10), .ref (ro 11), .ref (ro 12), .ref (ro 13), .ref (ro 14), .ref (ro 15)])), (ro 1, .inl (Y.2 0, 300, .inl val)), (ro 2, .inl (Y.2 0, 3, .inl siz)), (ro 3, .inl (Y.2 0, 8, .inl tre)), (ro 4, .inl (Y.2 0, 8, .inl spa)), (ro 5, .inl (Y.2 0, 12, .inl pro)), (ro 6, .inl (Y.2 0, 12, .inl bes)), (ro 7, .inl (Y.2 1, 12, .inl isr)), (ro 8, .inl (Y.2 0, 64, .inl key)), (ro 9, .inl (Y.2 0, 64, .inl lev)), (ro 10, .inl (Y.2 0, 4, .inl kvi)), (ro 11, .inl (Y.2 0, 4, .inl ksz)), (ro 12, .inl (Y.2 0, 4, .inl krt)), (ro 13, .inl (Y.2 1, 4, .inl ala)), (ro 14, .inl (Y.2 0, 4, .inl fol)), (ro 15, .inl (Y.2 0, 4, .inl cts))] H0) (hv : th_RIv S val siz pro key kvi ksz krt ala fol cts) (x1 x2 : Int32) : th_M l Y yX6_show cX6_show 6 (some .boolean) (th_rm 6 0 0) [.ref (ro 0), .int x1, .int x2] H0 (fun z => z ∈ [ro 0, ro 1, ro 2, ro 3, ro 4, ro 5, ro 6, ro 7, ro 8, ro 9, ro 10, ro 11, ro 12, ro 13, ro 14, ro 15]) (th_ro Y ro (sp_show S x1 x2)) := by
  refine th_M.intro (by decide) (Nat.le_of_ble_eq_true rfl) ?_
  intro p e s m args below meth c ls Q hQ C hKN hl hS
  obtain ⟨hx, hb, hr, hml, hown, hts, hlk, hnm⟩ := C
  obtain ⟨hK, hN⟩ := hKN
  have hown : s.vm.findClass RX6 = some m.cls := hown
  have hl : lv_has ls 6 [(0, .ref (ro 0)), (1, .int x1), (2, .int x2)] := hl
  have hD : va_D (fun z => z ∈ [ro 0, ro 1, ro 2, ro 3, ro 4, ro 5, ro 6, ro 7, ro 8, ro 9, ro 10, ro 11, ro 12, ro 13, ro 14, ro 15]) [(ro 0, .inr (6, [.int thr, .ref (ro 1), .ref (ro 2), .int (nI S.1), .ref (ro 3), .ref (ro 4), .ref (ro 5), .int (nI S.2.2.2.1), .ref (ro 6), .ref (ro 7), .int stp, .int efr, .int esz, .int etr, .ref (ro 8), .ref (ro 9), .ref (ro 10), .ref (ro 11), .ref (ro 12), .ref (ro 13), .ref (ro 14), .ref (ro 15)])), (ro 1, .inl (Y.2 0, 300, .inl val)), (ro 2, .inl (Y.2 0, 3, .inl siz)), (ro 3, .inl (Y.2 0, 8, .inl tre)), (ro 4, .inl (Y.2 0, 8, .inl spa)), (ro 5, .inl (Y.2 0, 12, .inl pro)), (ro 6, .inl (Y.2 0, 12, .inl bes)), (ro 7, .inl (Y.2 1, 12, .inl isr)), (ro 8, .inl (Y.2 0, 64, .inl key)), (ro 9, .inl (Y.2 0, 64, .inl lev)), (ro 10, .inl (Y.2 0, 4, .inl kvi)), (ro 11, .inl (Y.2 0, 4, .inl ksz)), (ro 12, .inl (Y.2 0, 4, .inl krt)), (ro 13, .inl (Y.2 1, 4, .inl ala)), (ro 14, .inl (Y.2 0, 4, .inl fol)), (ro 15, .inl (Y.2 0, 4, .inl cts))] := th_mem (th_gD hJ [0, 1, 2, 3, 4, 5, 6, 7, 8, 9, 10, 11, 12, 13, 14, 15] (fun k9 hk9 => by simp only [List.mem_cons, List.not_mem_nil, or_false] at hk9; omega) th_nd16 rfl)
  have hv1 := hv.1
  have hv12 := hv.2.2.1
  refine lv_aload_n hx hb dX6_show_0 rfl (lv_at hl 0 rfl) ?_
  refine lv_iload_n hx hb dX6_show_1 rfl (lv_at hl 1 rfl) ?_
  refine th_callS hx hb hml hown hts ⟨hK, hN⟩ hl hS (rest := [.ref (ro 0)]) (c_X6_isWatcher l Y _ x1) ok_X6_isWatcher tw_4_147 dX6_show_2 rfl rfl (Nat.le_of_ble_eq_true rfl) ⟨Nat.le_of_ble_eq_true rfl, Nat.le_of_ble_eq_true rfl⟩ ⟨Nat.le_of_ble_eq_true rfl, Nat.le_of_ble_eq_true rfl⟩ (fun _ h => h.elim) (th_kpi (fun locs hS => ?_))
  by_cases q1 : th_ir x1 0 4
  · refine th_ti (th_bT q1) ?_
    have uq9 := q1
    obtain ⟨j1, j1a, j1b, ux9⟩ := uq9
    subst ux9
    have zj1 : th_ix (nI j1) = j1 := th_ixN (by omega)
    refine th_zeq (tgt := 20) hx hb dX6_show_5 (by decide) (by omega) (fun c_1 => by exfalso; omega) (fun c_1 => ?_)
    refine lv_aload_n hx hb dX6_show_8 rfl (lv_at hl 0 rfl) ?_
    refine lv_iload_n hx hb dX6_show_9 rfl (lv_at hl 2 rfl) ?_
    refine th_callV hx hb hml hown hts ⟨hK, hN⟩ hl hS (hP 0 _ rfl) rfl (rest := [.ref (ro 0)]) (c_X6_isView l Y _ ro thr stp efr esz etr S.1 S.2.2.2.1 (hP.sub (ws' := [(ro 0, .inr (6, [.int thr, .ref (ro 1), .ref (ro 2), .int (nI S.1), .ref (ro 3), .ref (ro 4), .ref (ro 5), .int (nI S.2.2.2.1), .ref (ro 6), .ref (ro 7), .int stp, .int efr, .int esz, .int etr, .ref (ro 8), .ref (ro 9), .ref (ro 10), .ref (ro 11), .ref (ro 12), .ref (ro 13), .ref (ro 14), .ref (ro 15)]))]) [0] rfl) (by omega) (by omega) x2) ok_X6_isView tw_3_230 dX6_show_10 rfl rfl (Nat.le_of_ble_eq_true rfl) ⟨Nat.le_of_ble_eq_true rfl, Nat.le_of_ble_eq_true rfl⟩ ⟨Nat.le_of_ble_eq_true rfl, Nat.le_of_ble_eq_true rfl⟩ (fun _ h => h.elim) (th_kpi (fun locs hS => ?_))
    by_cases q2 : th_ir x2 0 S.1
    · refine th_ti (th_bT q2) ?_
      have uq9 := q2
      obtain ⟨j2, j2a, j2b, ux9⟩ := uq9
      subst ux9
      have zj2 : th_ix (nI j2) = j2 := th_ixN (by omega)
      obtain ⟨hn2, hs2, hf2⟩ := hv.2.1 j2 j2b
      refine th_zeq (tgt := 20) hx hb dX6_show_13 (by decide) (by omega) (fun c_2 => by exfalso; omega) (fun c_2 => ?_)
      refine lv_iconst (v := nI 0) hx hb dX6_show_16 (by decide) ?_
      refine lv_goto (tgt := 21) hx hb dX6_show_17 (by decide) ?_
      refine th_callV hx hb hml hown hts ⟨hK, hN⟩ hl hS (hP 0 _ rfl) rfl (rest := []) (c_X6_goesWell l Y _ ro thr stp efr esz etr S.1 S.2.2.2.1 (hP.sub (ws' := [(ro 0, .inr (6, [.int thr, .ref (ro 1), .ref (ro 2), .int (nI S.1), .ref (ro 3), .ref (ro 4), .ref (ro 5), .int (nI S.2.2.2.1), .ref (ro 6), .ref (ro 7), .int stp, .int efr, .int esz, .int etr, .ref (ro 8), .ref (ro 9), .ref (ro 10), .ref (ro 11), .ref (ro 12), .ref (ro 13), .ref (ro 14), .ref (ro 15)]))]) [0] rfl) 0 (by omega)) ok_X6_goesWell tw_4_1 dX6_show_21 rfl rfl (Nat.le_of_ble_eq_true rfl) ⟨Nat.le_of_ble_eq_true rfl, Nat.le_of_ble_eq_true rfl⟩ ⟨Nat.le_of_ble_eq_true rfl, Nat.le_of_ble_eq_true rfl⟩ (th_subL [0] rfl) (th_ki (fun rz9 H locs hp hsm hS => ?_))
      obtain ⟨hrz, hPc⟩ := hp
      have hP : va_P Y.1 vwCl [(ro 0, .inr (6, [.int (nI 0), .ref (ro 1), .ref (ro 2), .int (nI S.1), .ref (ro 3), .ref (ro 4), .ref (ro 5), .int (nI S.2.2.2.1), .ref (ro 6), .ref (ro 7), .int stp, .int efr, .int esz, .int etr, .ref (ro 8), .ref (ro 9), .ref (ro 10), .ref (ro 11), .ref (ro 12), .ref (ro 13), .ref (ro 14), .ref (ro 15)])), (ro 1, .inl (Y.2 0, 300, .inl val)), (ro 2, .inl (Y.2 0, 3, .inl siz)), (ro 3, .inl (Y.2 0, 8, .inl tre)), (ro 4, .inl (Y.2 0, 8, .inl spa)), (ro 5, .inl (Y.2 0, 12, .inl pro)), (ro 6, .inl (Y.2 0, 12, .inl bes)), (ro 7, .inl (Y.2 1, 12, .inl isr)), (ro 8, .inl (Y.2 0, 64, .inl key)), (ro 9, .inl (Y.2 0, 64, .inl lev)), (ro 10, .inl (Y.2 0, 4, .inl kvi)), (ro 11, .inl (Y.2 0, 4, .inl ksz)), (ro 12, .inl (Y.2 0, 4, .inl krt)), (ro 13, .inl (Y.2 1, 4, .inl ala)), (ro 14, .inl (Y.2 0, 4, .inl fol)), (ro 15, .inl (Y.2 0, 4, .inl cts))] _ := (th_join (wr := [(ro 1, .inl (Y.2 0, 300, .inl val)), (ro 2, .inl (Y.2 0, 3, .inl siz)), (ro 3, .inl (Y.2 0, 8, .inl tre)), (ro 4, .inl (Y.2 0, 8, .inl spa)), (ro 5, .inl (Y.2 0, 12, .inl pro)), (ro 6, .inl (Y.2 0, 12, .inl bes)), (ro 7, .inl (Y.2 1, 12, .inl isr)), (ro 8, .inl (Y.2 0, 64, .inl key)), (ro 9, .inl (Y.2 0, 64, .inl lev)), (ro 10, .inl (Y.2 0, 4, .inl kvi)), (ro 11, .inl (Y.2 0, 4, .inl ksz)), (ro 12, .inl (Y.2 0, 4, .inl krt)), (ro 13, .inl (Y.2 1, 4, .inl ala)), (ro 14, .inl (Y.2 0, 4, .inl fol)), (ro 15, .inl (Y.2 0, 4, .inl cts))]) hP hD [1, 2, 3, 4, 5, 6, 7, 8, 9, 10, 11, 12, 13, 14, 15] [0] rfl rfl (by decide) hsm hPc).sub [15, 0, 1, 2, 3, 4, 5, 6, 7, 8, 9, 10, 11, 12, 13, 14] rfl
      have hD : va_D _ [(ro 0, .inr (6, [.int (nI 0), .ref (ro 1), .ref (ro 2), .int (nI S.1), .ref (ro 3), .ref (ro 4), .ref (ro 5), .int (nI S.2.2.2.1), .ref (ro 6), .ref (ro 7), .int stp, .int efr, .int esz, .int etr, .ref (ro 8), .ref (ro 9), .ref (ro 10), .ref (ro 11), .ref (ro 12), .ref (ro 13), .ref (ro 14), .ref (ro 15)])), (ro 1, .inl (Y.2 0, 300, .inl val)), (ro 2, .inl (Y.2 0, 3, .inl siz)), (ro 3, .inl (Y.2 0, 8, .inl tre)), (ro 4, .inl (Y.2 0, 8, .inl spa)), (ro 5, .inl (Y.2 0, 12, .inl pro)), (ro 6, .inl (Y.2 0, 12, .inl bes)), (ro 7, .inl (Y.2 1, 12, .inl isr)), (ro 8, .inl (Y.2 0, 64, .inl key)), (ro 9, .inl (Y.2 0, 64, .inl lev)), (ro 10, .inl (Y.2 0, 4, .inl kvi)), (ro 11, .inl (Y.2 0, 4, .inl ksz)), (ro 12, .inl (Y.2 0, 4, .inl krt)), (ro 13, .inl (Y.2 1, 4, .inl ala)), (ro 14, .inl (Y.2 0, 4, .inl fol)), (ro 15, .inl (Y.2 0, 4, .inl cts))] := th_Dsame hD rfl
      obtain rfl : rz9 = nI 1 := by rw [hrz]; rfl
      refine th_zne (tgt := 29) hx hb dX6_show_24 (by decide) (by omega) (fun c_3 => ?_) (fun c_3 => by exfalso; omega)
      refine lv_aload_n hx hb dX6_show_29 rfl (lv_at hl 0 rfl) ?_
      refine va_get (D := Y.1) (ci := 6) (v := .ref (ro 11)) (C := RX6) (T := TX6) (N := 22) hx hb hts inX6 hown hK hP 0 rfl rfl 17 (by decide) (hts _ tw_3_172) (fun _ h9 => h9) rfl dX6_show_30 ?_
      refine lv_iload_n hx hb dX6_show_33 rfl (lv_at hl 1 rfl) ?_
      refine th_iald hx hb hK hP 11 rfl (j := j1) (by omega) (by omega) dX6_show_34 ?_
      rcases (hv.2.2.2.2.2 j1 j1b).2.2.1 with ⟨hKs, hW0⟩ | ⟨jk, kk9, hKs, hjk, hkk, hW0⟩
      · skip
        refine th_ti (show ksz j1 = -1 from (hv.2.2.2.2.2 j1 j1b).1.1.trans hW0) ?_
        refine lv_istore_n (lv' := [(3, .int (-1)), (0, .ref (ro 0)), (1, .int (nI j1)), (2, .int (nI j2))]) hx hb dX6_show_35 rfl hl (by decide) rfl (fun ls hl => ?_)
        refine lv_iload_n hx hb dX6_show_36 rfl (lv_at hl 0 rfl) ?_
        refine lv_iconst (v := -1) hx hb dX6_show_37 (by decide) ?_
        refine lv_icmp_eq (tgt := 67) hx hb dX6_show_38 (by decide) (fun c_4 => ?_) (fun c_4 => by exfalso; exact c_4 rfl)
        have q3 : th_tk S j1 j2 := Or.inl hKs
        have hlo : th_lo S j1 = 0 := by
          unfold th_lo
          rw [hKs]
        refine lv_iconst (v := nI 1) hx hb dX6_show_67 (by decide) ?_
        refine lv_goto (tgt := 72) hx hb dX6_show_68 (by decide) ?_
        refine lv_istore (lv' := [(4, .int (nI 1)), (3, .int (-1)), (0, .ref (ro 0)), (1, .int (nI j1)), (2, .int (nI j2))]) hx hb dX6_show_72 hl (by decide) rfl (fun ls hl => ?_)
        refine lv_iload hx hb dX6_show_74 (lv_at hl 0 rfl) ?_
        refine th_zne (tgt := 88) hx hb dX6_show_76 (by decide) (by omega) (fun c_5 => ?_) (fun c_5 => by exfalso; omega)
        refine lv_iload_n hx hb dX6_show_88 rfl (lv_at hl 1 rfl) ?_
        refine lv_iconst (v := -1) hx hb dX6_show_89 (by decide) ?_
        refine lv_icmp_ne (tgt := 97) hx hb dX6_show_90 (by decide) (fun c_6 => by exfalso; exact c_6 rfl) (fun c_6 => ?_)
        refine lv_iconst (v := nI 0) hx hb dX6_show_93 (by decide) ?_
        refine lv_goto (tgt := 98) hx hb dX6_show_94 (by decide) ?_
        refine lv_istore (lv' := [(5, .int (nI 0)), (4, .int (nI 1)), (3, .int (-1)), (0, .ref (ro 0)), (1, .int (nI j1)), (2, .int (nI j2))]) hx hb dX6_show_98 hl (by decide) rfl (fun ls hl => ?_)
        have lp_7 : ∀ (n_8 : Nat) (k9 : Nat) (cts9 : Nat → Int32) (H : Heap) (locs : List Loc) (ls : Array Slot), S.2.1 j2 - k9 < n_8 → (k9 ≤ S.2.1 j2) → (0 ≤ k9) → (cts9 j1 = th_cf (S.2.2.1 j2) (S.2.2.2.2.2.2.2 j1 3) (S.2.2.2.2.2.2.2 j1 4) 0 (k9 - 0)) → (∀ a9, a9 ≠ j1 → cts9 a9 = cts a9) → va_P Y.1 vwCl [(ro 0, .inr (6, [.int (nI 0), .ref (ro 1), .ref (ro 2), .int (nI S.1), .ref (ro 3), .ref (ro 4), .ref (ro 5), .int (nI S.2.2.2.1), .ref (ro 6), .ref (ro 7), .int stp, .int efr, .int esz, .int etr, .ref (ro 8), .ref (ro 9), .ref (ro 10), .ref (ro 11), .ref (ro 12), .ref (ro 13), .ref (ro 14), .ref (ro 15)])), (ro 1, .inl (Y.2 0, 300, .inl val)), (ro 2, .inl (Y.2 0, 3, .inl siz)), (ro 3, .inl (Y.2 0, 8, .inl tre)), (ro 4, .inl (Y.2 0, 8, .inl spa)), (ro 5, .inl (Y.2 0, 12, .inl pro)), (ro 6, .inl (Y.2 0, 12, .inl bes)), (ro 7, .inl (Y.2 1, 12, .inl isr)), (ro 8, .inl (Y.2 0, 64, .inl key)), (ro 9, .inl (Y.2 0, 64, .inl lev)), (ro 10, .inl (Y.2 0, 4, .inl kvi)), (ro 11, .inl (Y.2 0, 4, .inl ksz)), (ro 12, .inl (Y.2 0, 4, .inl krt)), (ro 13, .inl (Y.2 1, 4, .inl ala)), (ro 14, .inl (Y.2 0, 4, .inl fol)), (ro 15, .inl (Y.2 0, 4, .inl cts9))] H → va_D (fun z => z ∈ [ro 0, ro 1, ro 2, ro 3, ro 4, ro 5, ro 6, ro 7, ro 8, ro 9, ro 10, ro 11, ro 12, ro 13, ro 14, ro 15]) [(ro 0, .inr (6, [.int (nI 0), .ref (ro 1), .ref (ro 2), .int (nI S.1), .ref (ro 3), .ref (ro 4), .ref (ro 5), .int (nI S.2.2.2.1), .ref (ro 6), .ref (ro 7), .int stp, .int efr, .int esz, .int etr, .ref (ro 8), .ref (ro 9), .ref (ro 10), .ref (ro 11), .ref (ro 12), .ref (ro 13), .ref (ro 14), .ref (ro 15)])), (ro 1, .inl (Y.2 0, 300, .inl val)), (ro 2, .inl (Y.2 0, 3, .inl siz)), (ro 3, .inl (Y.2 0, 8, .inl tre)), (ro 4, .inl (Y.2 0, 8, .inl spa)), (ro 5, .inl (Y.2 0, 12, .inl pro)), (ro 6, .inl (Y.2 0, 12, .inl bes)), (ro 7, .inl (Y.2 1, 12, .inl isr)), (ro 8, .inl (Y.2 0, 64, .inl key)), (ro 9, .inl (Y.2 0, 64, .inl lev)), (ro 10, .inl (Y.2 0, 4, .inl kvi)), (ro 11, .inl (Y.2 0, 4, .inl ksz)), (ro 12, .inl (Y.2 0, 4, .inl krt)), (ro 13, .inl (Y.2 1, 4, .inl ala)), (ro 14, .inl (Y.2 0, 4, .inl fol)), (ro 15, .inl (Y.2 0, 4, .inl cts9))] → va_S (fun z => z ∈ [ro 0, ro 1, ro 2, ro 3, ro 4, ro 5, ro 6, ro 7, ro 8, ro 9, ro 10, ro 11, ro 12, ro 13, ro 14, ro 15]) H0 H locs → lv_has ls 6 [(0, .ref (ro 0)), (1, .int (nI j1)), (2, .int (nI j2)), (3, .int (-1)), (4, .int (nI 1)), (5, .int (nI k9))] → W p l e (th_rm 6 0 0) s m args below meth c H locs 0 0 Q (F0 m 100 ls []) := by
          intro n_8; induction n_8 with
          | zero => intros; exfalso; omega
          | succ n_8 ih_9 =>
            intro k9 cts9 H locs ls hmz hk9 hlo9 hx9 hco hP hD hS hl
            refine lv_iload hx hb dX6_show_100 (lv_at hl 5 rfl) ?_
            refine lv_aload_n hx hb dX6_show_102 rfl (lv_at hl 0 rfl) ?_
            refine va_get (D := Y.1) (ci := 6) (v := .ref (ro 2)) (C := RX6) (T := TX6) (N := 22) hx hb hts inX6 hown hK hP 0 rfl rfl 2 (by decide) (hts _ tw_3_157) (fun _ h9 => h9) rfl dX6_show_103 ?_
            refine lv_iload_n hx hb dX6_show_106 rfl (lv_at hl 2 rfl) ?_
            refine th_iald hx hb hK hP 2 rfl (j := j2) (by omega) (by omega) dX6_show_107 ?_
            refine th_ti (show siz j2 = nI (S.2.1 j2) from hs2) ?_
            refine th_ige (tgt := 152) hx hb dX6_show_108 (by decide) (by omega) (by omega) (fun c_10 => ?_) (fun c_10 => ?_)
            · skip
              refine lv_aload_n hx hb dX6_show_152 rfl (lv_at hl 0 rfl) ?_
              refine va_get (D := Y.1) (ci := 6) (v := .ref (ro 10)) (C := RX6) (T := TX6) (N := 22) hx hb hts inX6 hown hK hP 0 rfl rfl 16 (by decide) (hts _ tw_3_171) (fun _ h9 => h9) rfl dX6_show_153 ?_
              refine lv_iload_n hx hb dX6_show_156 rfl (lv_at hl 1 rfl) ?_
              refine lv_iload_n hx hb dX6_show_157 rfl (lv_at hl 2 rfl) ?_
              refine th_iast hx hb hK hP hD hS 10 rfl (j := j1) (by omega) (by omega) dX6_show_158 (fun H locs hP hD hS => ?_)
              have hP : va_P Y.1 vwCl [(ro 0, .inr (6, [.int (nI 0), .ref (ro 1), .ref (ro 2), .int (nI S.1), .ref (ro 3), .ref (ro 4), .ref (ro 5), .int (nI S.2.2.2.1), .ref (ro 6), .ref (ro 7), .int stp, .int efr, .int esz, .int etr, .ref (ro 8), .ref (ro 9), .ref (ro 10), .ref (ro 11), .ref (ro 12), .ref (ro 13), .ref (ro 14), .ref (ro 15)])), (ro 1, .inl (Y.2 0, 300, .inl val)), (ro 2, .inl (Y.2 0, 3, .inl siz)), (ro 3, .inl (Y.2 0, 8, .inl tre)), (ro 4, .inl (Y.2 0, 8, .inl spa)), (ro 5, .inl (Y.2 0, 12, .inl pro)), (ro 6, .inl (Y.2 0, 12, .inl bes)), (ro 7, .inl (Y.2 1, 12, .inl isr)), (ro 8, .inl (Y.2 0, 64, .inl key)), (ro 9, .inl (Y.2 0, 64, .inl lev)), (ro 10, .inl (Y.2 0, 4, .inl (upd kvi j1 (nI j2)))), (ro 11, .inl (Y.2 0, 4, .inl ksz)), (ro 12, .inl (Y.2 0, 4, .inl krt)), (ro 13, .inl (Y.2 1, 4, .inl ala)), (ro 14, .inl (Y.2 0, 4, .inl fol)), (ro 15, .inl (Y.2 0, 4, .inl cts9))] _ := hP
              have hD : va_D _ [(ro 0, .inr (6, [.int (nI 0), .ref (ro 1), .ref (ro 2), .int (nI S.1), .ref (ro 3), .ref (ro 4), .ref (ro 5), .int (nI S.2.2.2.1), .ref (ro 6), .ref (ro 7), .int stp, .int efr, .int esz, .int etr, .ref (ro 8), .ref (ro 9), .ref (ro 10), .ref (ro 11), .ref (ro 12), .ref (ro 13), .ref (ro 14), .ref (ro 15)])), (ro 1, .inl (Y.2 0, 300, .inl val)), (ro 2, .inl (Y.2 0, 3, .inl siz)), (ro 3, .inl (Y.2 0, 8, .inl tre)), (ro 4, .inl (Y.2 0, 8, .inl spa)), (ro 5, .inl (Y.2 0, 12, .inl pro)), (ro 6, .inl (Y.2 0, 12, .inl bes)), (ro 7, .inl (Y.2 1, 12, .inl isr)), (ro 8, .inl (Y.2 0, 64, .inl key)), (ro 9, .inl (Y.2 0, 64, .inl lev)), (ro 10, .inl (Y.2 0, 4, .inl (upd kvi j1 (nI j2)))), (ro 11, .inl (Y.2 0, 4, .inl ksz)), (ro 12, .inl (Y.2 0, 4, .inl krt)), (ro 13, .inl (Y.2 1, 4, .inl ala)), (ro 14, .inl (Y.2 0, 4, .inl fol)), (ro 15, .inl (Y.2 0, 4, .inl cts9))] := hD
              refine lv_aload_n hx hb dX6_show_159 rfl (lv_at hl 0 rfl) ?_
              refine va_get (D := Y.1) (ci := 6) (v := .ref (ro 11)) (C := RX6) (T := TX6) (N := 22) hx hb hts inX6 hown hK hP 0 rfl rfl 17 (by decide) (hts _ tw_3_172) (fun _ h9 => h9) rfl dX6_show_160 ?_
              refine lv_iload_n hx hb dX6_show_163 rfl (lv_at hl 1 rfl) ?_
              refine lv_aload_n hx hb dX6_show_164 rfl (lv_at hl 0 rfl) ?_
              refine va_get (D := Y.1) (ci := 6) (v := .ref (ro 2)) (C := RX6) (T := TX6) (N := 22) hx hb hts inX6 hown hK hP 0 rfl rfl 2 (by decide) (hts _ tw_3_157) (fun _ h9 => h9) rfl dX6_show_165 ?_
              refine lv_iload_n hx hb dX6_show_168 rfl (lv_at hl 2 rfl) ?_
              refine th_iald hx hb hK hP 2 rfl (j := j2) (by omega) (by omega) dX6_show_169 ?_
              refine th_ti (show siz j2 = nI (S.2.1 j2) from hs2) ?_
              refine th_iast hx hb hK hP hD hS 11 rfl (j := j1) (by omega) (by omega) dX6_show_170 (fun H locs hP hD hS => ?_)
              have hP : va_P Y.1 vwCl [(ro 0, .inr (6, [.int (nI 0), .ref (ro 1), .ref (ro 2), .int (nI S.1), .ref (ro 3), .ref (ro 4), .ref (ro 5), .int (nI S.2.2.2.1), .ref (ro 6), .ref (ro 7), .int stp, .int efr, .int esz, .int etr, .ref (ro 8), .ref (ro 9), .ref (ro 10), .ref (ro 11), .ref (ro 12), .ref (ro 13), .ref (ro 14), .ref (ro 15)])), (ro 1, .inl (Y.2 0, 300, .inl val)), (ro 2, .inl (Y.2 0, 3, .inl siz)), (ro 3, .inl (Y.2 0, 8, .inl tre)), (ro 4, .inl (Y.2 0, 8, .inl spa)), (ro 5, .inl (Y.2 0, 12, .inl pro)), (ro 6, .inl (Y.2 0, 12, .inl bes)), (ro 7, .inl (Y.2 1, 12, .inl isr)), (ro 8, .inl (Y.2 0, 64, .inl key)), (ro 9, .inl (Y.2 0, 64, .inl lev)), (ro 10, .inl (Y.2 0, 4, .inl (upd kvi j1 (nI j2)))), (ro 11, .inl (Y.2 0, 4, .inl (upd ksz j1 (nI (S.2.1 j2))))), (ro 12, .inl (Y.2 0, 4, .inl krt)), (ro 13, .inl (Y.2 1, 4, .inl ala)), (ro 14, .inl (Y.2 0, 4, .inl fol)), (ro 15, .inl (Y.2 0, 4, .inl cts9))] _ := hP
              have hD : va_D _ [(ro 0, .inr (6, [.int (nI 0), .ref (ro 1), .ref (ro 2), .int (nI S.1), .ref (ro 3), .ref (ro 4), .ref (ro 5), .int (nI S.2.2.2.1), .ref (ro 6), .ref (ro 7), .int stp, .int efr, .int esz, .int etr, .ref (ro 8), .ref (ro 9), .ref (ro 10), .ref (ro 11), .ref (ro 12), .ref (ro 13), .ref (ro 14), .ref (ro 15)])), (ro 1, .inl (Y.2 0, 300, .inl val)), (ro 2, .inl (Y.2 0, 3, .inl siz)), (ro 3, .inl (Y.2 0, 8, .inl tre)), (ro 4, .inl (Y.2 0, 8, .inl spa)), (ro 5, .inl (Y.2 0, 12, .inl pro)), (ro 6, .inl (Y.2 0, 12, .inl bes)), (ro 7, .inl (Y.2 1, 12, .inl isr)), (ro 8, .inl (Y.2 0, 64, .inl key)), (ro 9, .inl (Y.2 0, 64, .inl lev)), (ro 10, .inl (Y.2 0, 4, .inl (upd kvi j1 (nI j2)))), (ro 11, .inl (Y.2 0, 4, .inl (upd ksz j1 (nI (S.2.1 j2))))), (ro 12, .inl (Y.2 0, 4, .inl krt)), (ro 13, .inl (Y.2 1, 4, .inl ala)), (ro 14, .inl (Y.2 0, 4, .inl fol)), (ro 15, .inl (Y.2 0, 4, .inl cts9))] := hD
              refine lv_aload_n hx hb dX6_show_171 rfl (lv_at hl 0 rfl) ?_
              refine va_get (D := Y.1) (ci := 6) (v := .ref (ro 12)) (C := RX6) (T := TX6) (N := 22) hx hb hts inX6 hown hK hP 0 rfl rfl 18 (by decide) (hts _ tw_3_173) (fun _ h9 => h9) rfl dX6_show_172 ?_
              refine lv_iload_n hx hb dX6_show_175 rfl (lv_at hl 1 rfl) ?_
              refine lv_aload_n hx hb dX6_show_176 rfl (lv_at hl 0 rfl) ?_
              refine lv_iload_n hx hb dX6_show_177 rfl (lv_at hl 2 rfl) ?_
              refine lv_iconst (v := nI 0) hx hb dX6_show_178 (by decide) ?_
              refine lv_aload_n hx hb dX6_show_179 rfl (lv_at hl 0 rfl) ?_
              refine va_get (D := Y.1) (ci := 6) (v := .ref (ro 2)) (C := RX6) (T := TX6) (N := 22) hx hb hts inX6 hown hK hP 0 rfl rfl 2 (by decide) (hts _ tw_3_157) (fun _ h9 => h9) rfl dX6_show_180 ?_
              refine lv_iload_n hx hb dX6_show_183 rfl (lv_at hl 2 rfl) ?_
              refine th_iald hx hb hK hP 2 rfl (j := j2) (by omega) (by omega) dX6_show_184 ?_
              refine th_ti (show siz j2 = nI (S.2.1 j2) from hs2) ?_
              refine th_callV hx hb hml hown hts ⟨hK, hN⟩ hl hS (hP 0 _ rfl) rfl (rest := [.int (nI j1), .ref (ro 12)]) (c_X6_rootOf l Y _ ro (nI 0) stp efr esz etr S.1 S.2.2.2.1 val tre spa (hP.sub (ws' := [(ro 0, .inr (6, [.int (nI 0), .ref (ro 1), .ref (ro 2), .int (nI S.1), .ref (ro 3), .ref (ro 4), .ref (ro 5), .int (nI S.2.2.2.1), .ref (ro 6), .ref (ro 7), .int stp, .int efr, .int esz, .int etr, .ref (ro 8), .ref (ro 9), .ref (ro 10), .ref (ro 11), .ref (ro 12), .ref (ro 13), .ref (ro 14), .ref (ro 15)])), (ro 1, .inl (Y.2 0, 300, .inl val)), (ro 3, .inl (Y.2 0, 8, .inl tre)), (ro 4, .inl (Y.2 0, 8, .inl spa))]) [0, 1, 3, 4] rfl) ((hD.sub (ws' := [(ro 0, .inr (6, [.int (nI 0), .ref (ro 1), .ref (ro 2), .int (nI S.1), .ref (ro 3), .ref (ro 4), .ref (ro 5), .int (nI S.2.2.2.1), .ref (ro 6), .ref (ro 7), .int stp, .int efr, .int esz, .int etr, .ref (ro 8), .ref (ro 9), .ref (ro 10), .ref (ro 11), .ref (ro 12), .ref (ro 13), .ref (ro 14), .ref (ro 15)])), (ro 1, .inl (Y.2 0, 300, .inl val)), (ro 3, .inl (Y.2 0, 8, .inl tre)), (ro 4, .inl (Y.2 0, 8, .inl spa))]) [0, 1, 3, 4] (by decide) rfl).weaken (fun _ _ _ _ => trivial)) j2 0 (S.2.1 j2) (by omega) (by omega)) ok_X6_rootOf tw_4_33 dX6_show_185 rfl rfl (Nat.le_of_ble_eq_true rfl) ⟨Nat.le_of_ble_eq_true rfl, Nat.le_of_ble_eq_true rfl⟩ ⟨Nat.le_of_ble_eq_true rfl, Nat.le_of_ble_eq_true rfl⟩ (th_subL [0, 1, 3, 4] rfl) (th_ki (fun rz9 H locs hp hsm hS => ?_))
              obtain ⟨hrz, z_11t, z_11s, hPc⟩ := hp
              have hP : va_P Y.1 vwCl [(ro 0, .inr (6, [.int (nI 0), .ref (ro 1), .ref (ro 2), .int (nI S.1), .ref (ro 3), .ref (ro 4), .ref (ro 5), .int (nI S.2.2.2.1), .ref (ro 6), .ref (ro 7), .int stp, .int efr, .int esz, .int etr, .ref (ro 8), .ref (ro 9), .ref (ro 10), .ref (ro 11), .ref (ro 12), .ref (ro 13), .ref (ro 14), .ref (ro 15)])), (ro 1, .inl (Y.2 0, 300, .inl val)), (ro 2, .inl (Y.2 0, 3, .inl siz)), (ro 3, .inl (Y.2 0, 8, .inl z_11t)), (ro 4, .inl (Y.2 0, 8, .inl z_11s)), (ro 5, .inl (Y.2 0, 12, .inl pro)), (ro 6, .inl (Y.2 0, 12, .inl bes)), (ro 7, .inl (Y.2 1, 12, .inl isr)), (ro 8, .inl (Y.2 0, 64, .inl key)), (ro 9, .inl (Y.2 0, 64, .inl lev)), (ro 10, .inl (Y.2 0, 4, .inl (upd kvi j1 (nI j2)))), (ro 11, .inl (Y.2 0, 4, .inl (upd ksz j1 (nI (S.2.1 j2))))), (ro 12, .inl (Y.2 0, 4, .inl krt)), (ro 13, .inl (Y.2 1, 4, .inl ala)), (ro 14, .inl (Y.2 0, 4, .inl fol)), (ro 15, .inl (Y.2 0, 4, .inl cts9))] _ := (th_join (wr := [(ro 2, .inl (Y.2 0, 3, .inl siz)), (ro 5, .inl (Y.2 0, 12, .inl pro)), (ro 6, .inl (Y.2 0, 12, .inl bes)), (ro 7, .inl (Y.2 1, 12, .inl isr)), (ro 8, .inl (Y.2 0, 64, .inl key)), (ro 9, .inl (Y.2 0, 64, .inl lev)), (ro 10, .inl (Y.2 0, 4, .inl (upd kvi j1 (nI j2)))), (ro 11, .inl (Y.2 0, 4, .inl (upd ksz j1 (nI (S.2.1 j2))))), (ro 12, .inl (Y.2 0, 4, .inl krt)), (ro 13, .inl (Y.2 1, 4, .inl ala)), (ro 14, .inl (Y.2 0, 4, .inl fol)), (ro 15, .inl (Y.2 0, 4, .inl cts9))]) hP hD [2, 5, 6, 7, 8, 9, 10, 11, 12, 13, 14, 15] [0, 1, 3, 4] rfl rfl (by decide) hsm hPc).sub [12, 13, 0, 14, 15, 1, 2, 3, 4, 5, 6, 7, 8, 9, 10, 11] rfl
              have hD : va_D _ [(ro 0, .inr (6, [.int (nI 0), .ref (ro 1), .ref (ro 2), .int (nI S.1), .ref (ro 3), .ref (ro 4), .ref (ro 5), .int (nI S.2.2.2.1), .ref (ro 6), .ref (ro 7), .int stp, .int efr, .int esz, .int etr, .ref (ro 8), .ref (ro 9), .ref (ro 10), .ref (ro 11), .ref (ro 12), .ref (ro 13), .ref (ro 14), .ref (ro 15)])), (ro 1, .inl (Y.2 0, 300, .inl val)), (ro 2, .inl (Y.2 0, 3, .inl siz)), (ro 3, .inl (Y.2 0, 8, .inl z_11t)), (ro 4, .inl (Y.2 0, 8, .inl z_11s)), (ro 5, .inl (Y.2 0, 12, .inl pro)), (ro 6, .inl (Y.2 0, 12, .inl bes)), (ro 7, .inl (Y.2 1, 12, .inl isr)), (ro 8, .inl (Y.2 0, 64, .inl key)), (ro 9, .inl (Y.2 0, 64, .inl lev)), (ro 10, .inl (Y.2 0, 4, .inl (upd kvi j1 (nI j2)))), (ro 11, .inl (Y.2 0, 4, .inl (upd ksz j1 (nI (S.2.1 j2))))), (ro 12, .inl (Y.2 0, 4, .inl krt)), (ro 13, .inl (Y.2 1, 4, .inl ala)), (ro 14, .inl (Y.2 0, 4, .inl fol)), (ro 15, .inl (Y.2 0, 4, .inl cts9))] := th_Dsame hD rfl
              subst hrz
              refine th_ti (th_rt_c _ _ _ (fun k9 hk9 => (hf2 _ (by omega)).1)) ?_
              refine th_iast hx hb hK hP hD hS 12 rfl (j := j1) (by omega) (by omega) dX6_show_188 (fun H locs hP hD hS => ?_)
              have hP : va_P Y.1 vwCl [(ro 0, .inr (6, [.int (nI 0), .ref (ro 1), .ref (ro 2), .int (nI S.1), .ref (ro 3), .ref (ro 4), .ref (ro 5), .int (nI S.2.2.2.1), .ref (ro 6), .ref (ro 7), .int stp, .int efr, .int esz, .int etr, .ref (ro 8), .ref (ro 9), .ref (ro 10), .ref (ro 11), .ref (ro 12), .ref (ro 13), .ref (ro 14), .ref (ro 15)])), (ro 1, .inl (Y.2 0, 300, .inl val)), (ro 2, .inl (Y.2 0, 3, .inl siz)), (ro 3, .inl (Y.2 0, 8, .inl z_11t)), (ro 4, .inl (Y.2 0, 8, .inl z_11s)), (ro 5, .inl (Y.2 0, 12, .inl pro)), (ro 6, .inl (Y.2 0, 12, .inl bes)), (ro 7, .inl (Y.2 1, 12, .inl isr)), (ro 8, .inl (Y.2 0, 64, .inl key)), (ro 9, .inl (Y.2 0, 64, .inl lev)), (ro 10, .inl (Y.2 0, 4, .inl (upd kvi j1 (nI j2)))), (ro 11, .inl (Y.2 0, 4, .inl (upd ksz j1 (nI (S.2.1 j2))))), (ro 12, .inl (Y.2 0, 4, .inl (upd krt j1 (th_rt (S.2.2.1 j2) 0 (S.2.1 j2))))), (ro 13, .inl (Y.2 1, 4, .inl ala)), (ro 14, .inl (Y.2 0, 4, .inl fol)), (ro 15, .inl (Y.2 0, 4, .inl cts9))] _ := hP
              have hD : va_D _ [(ro 0, .inr (6, [.int (nI 0), .ref (ro 1), .ref (ro 2), .int (nI S.1), .ref (ro 3), .ref (ro 4), .ref (ro 5), .int (nI S.2.2.2.1), .ref (ro 6), .ref (ro 7), .int stp, .int efr, .int esz, .int etr, .ref (ro 8), .ref (ro 9), .ref (ro 10), .ref (ro 11), .ref (ro 12), .ref (ro 13), .ref (ro 14), .ref (ro 15)])), (ro 1, .inl (Y.2 0, 300, .inl val)), (ro 2, .inl (Y.2 0, 3, .inl siz)), (ro 3, .inl (Y.2 0, 8, .inl z_11t)), (ro 4, .inl (Y.2 0, 8, .inl z_11s)), (ro 5, .inl (Y.2 0, 12, .inl pro)), (ro 6, .inl (Y.2 0, 12, .inl bes)), (ro 7, .inl (Y.2 1, 12, .inl isr)), (ro 8, .inl (Y.2 0, 64, .inl key)), (ro 9, .inl (Y.2 0, 64, .inl lev)), (ro 10, .inl (Y.2 0, 4, .inl (upd kvi j1 (nI j2)))), (ro 11, .inl (Y.2 0, 4, .inl (upd ksz j1 (nI (S.2.1 j2))))), (ro 12, .inl (Y.2 0, 4, .inl (upd krt j1 (th_rt (S.2.2.1 j2) 0 (S.2.1 j2))))), (ro 13, .inl (Y.2 1, 4, .inl ala)), (ro 14, .inl (Y.2 0, 4, .inl fol)), (ro 15, .inl (Y.2 0, 4, .inl cts9))] := hD
              refine lv_iconst (v := nI 1) hx hb dX6_show_189 (by decide) ?_
              refine th_zret hx hb hr hlk hQ hS dX6_show_190 (Nat.le_of_ble_eq_true rfl) (Nat.le_of_ble_eq_true rfl) (by first | exact Or.inl rfl | exact Or.inr rfl | assumption | exact th_b01 _) ?_
              have ek9 : k9 = S.2.1 j2 := by omega
              rw [ek9] at hx9
              show th_ro Y ro (_) _ _
              unfold sp_show
              simp only [zj1, zj2]
              rw [th_ifT ⟨q1, q2⟩]
              rw [th_ifT q3, hlo]
              exact th_roT (rfl) (th_rgI hP (th_RvW hv j1b (Or.inr ⟨j2, S.2.1 j2, rfl, j2b, Nat.le_refl _, rfl⟩) (hv.2.2.2.2.2 j1 j1b).2.2.2 (fun j9 h9 => by cases h9; exact pk_us) pk_us pk_us (hv.2.2.2.2.2 j1 j1b).1.2.2.1 (hv.2.2.2.2.2 j1 j1b).1.2.2.2.1 hx9 (fun a9 h9 => ⟨pk_un h9, pk_un h9, pk_un h9, rfl, rfl, hco a9 h9⟩)))
              
            refine lv_aload_n hx hb dX6_show_111 rfl (lv_at hl 0 rfl) ?_
            refine va_get (D := Y.1) (ci := 6) (v := .ref (ro 15)) (C := RX6) (T := TX6) (N := 22) hx hb hts inX6 hown hK hP 0 rfl rfl 21 (by decide) (hts _ tw_3_176) (fun _ h9 => h9) rfl dX6_show_112 ?_
            refine lv_iload_n hx hb dX6_show_115 rfl (lv_at hl 1 rfl) ?_
            refine lv_dup2_11 hx hb dX6_show_116 rfl rfl ?_
            refine th_iald hx hb hK hP 15 rfl (j := j1) (by omega) (by omega) dX6_show_117 ?_
            refine lv_aload_n hx hb dX6_show_118 rfl (lv_at hl 0 rfl) ?_
            refine va_get (D := Y.1) (ci := 6) (v := .ref (ro 1)) (C := RX6) (T := TX6) (N := 22) hx hb hts inX6 hown hK hP 0 rfl rfl 1 (by decide) (hts _ tw_3_156) (fun _ h9 => h9) rfl dX6_show_119 ?_
            refine lv_bipush (v := nI 100) hx hb dX6_show_122 (by decide) ?_
            refine lv_iload_n hx hb dX6_show_124 rfl (lv_at hl 2 rfl) ?_
            refine lv_imul hx hb dX6_show_125 ?_
            refine th_ti (pk_mul _ _) ?_
            refine lv_iload hx hb dX6_show_126 (lv_at hl 5 rfl) ?_
            refine lv_iadd hx hb dX6_show_128 ?_
            refine th_ti (nI_add _ _) ?_
            refine th_iald hx hb hK hP 1 rfl (j := ((100 * j2) + k9)) (by omega) (by omega) dX6_show_129 ?_
            refine th_ti (show val ((100 * j2) + k9) = S.2.2.1 j2 k9 from (hf2 k9 (by omega)).1) ?_
            refine lv_aload_n hx hb dX6_show_130 rfl (lv_at hl 0 rfl) ?_
            refine va_get (D := Y.1) (ci := 6) (v := .ref (ro 14)) (C := RX6) (T := TX6) (N := 22) hx hb hts inX6 hown hK hP 0 rfl rfl 20 (by decide) (hts _ tw_3_175) (fun _ h9 => h9) rfl dX6_show_131 ?_
            refine lv_iload_n hx hb dX6_show_134 rfl (lv_at hl 1 rfl) ?_
            refine th_iald hx hb hK hP 14 rfl (j := j1) (by omega) (by omega) dX6_show_135 ?_
            refine th_ti (show fol j1 = S.2.2.2.2.2.2.2 j1 3 from (hv.2.2.2.2.2 j1 j1b).1.2.2.2.1) ?_
            refine lv_icmp_ne (tgt := 143) hx hb dX6_show_136 (by decide) (fun c_12 => ?_) (fun c_12 => ?_)
            · skip
              refine lv_iconst (v := nI 0) hx hb dX6_show_143 (by decide) ?_
              refine lv_iadd hx hb dX6_show_144 ?_
              refine th_iast hx hb hK hP hD hS 15 rfl (j := j1) (by omega) (by omega) dX6_show_145 (fun H locs hP hD hS => ?_)
              have hP : va_P Y.1 vwCl [(ro 0, .inr (6, [.int (nI 0), .ref (ro 1), .ref (ro 2), .int (nI S.1), .ref (ro 3), .ref (ro 4), .ref (ro 5), .int (nI S.2.2.2.1), .ref (ro 6), .ref (ro 7), .int stp, .int efr, .int esz, .int etr, .ref (ro 8), .ref (ro 9), .ref (ro 10), .ref (ro 11), .ref (ro 12), .ref (ro 13), .ref (ro 14), .ref (ro 15)])), (ro 1, .inl (Y.2 0, 300, .inl val)), (ro 2, .inl (Y.2 0, 3, .inl siz)), (ro 3, .inl (Y.2 0, 8, .inl tre)), (ro 4, .inl (Y.2 0, 8, .inl spa)), (ro 5, .inl (Y.2 0, 12, .inl pro)), (ro 6, .inl (Y.2 0, 12, .inl bes)), (ro 7, .inl (Y.2 1, 12, .inl isr)), (ro 8, .inl (Y.2 0, 64, .inl key)), (ro 9, .inl (Y.2 0, 64, .inl lev)), (ro 10, .inl (Y.2 0, 4, .inl kvi)), (ro 11, .inl (Y.2 0, 4, .inl ksz)), (ro 12, .inl (Y.2 0, 4, .inl krt)), (ro 13, .inl (Y.2 1, 4, .inl ala)), (ro 14, .inl (Y.2 0, 4, .inl fol)), (ro 15, .inl (Y.2 0, 4, .inl (upd cts9 j1 ((cts9 j1) + (nI 0)))))] _ := hP
              have hD : va_D _ [(ro 0, .inr (6, [.int (nI 0), .ref (ro 1), .ref (ro 2), .int (nI S.1), .ref (ro 3), .ref (ro 4), .ref (ro 5), .int (nI S.2.2.2.1), .ref (ro 6), .ref (ro 7), .int stp, .int efr, .int esz, .int etr, .ref (ro 8), .ref (ro 9), .ref (ro 10), .ref (ro 11), .ref (ro 12), .ref (ro 13), .ref (ro 14), .ref (ro 15)])), (ro 1, .inl (Y.2 0, 300, .inl val)), (ro 2, .inl (Y.2 0, 3, .inl siz)), (ro 3, .inl (Y.2 0, 8, .inl tre)), (ro 4, .inl (Y.2 0, 8, .inl spa)), (ro 5, .inl (Y.2 0, 12, .inl pro)), (ro 6, .inl (Y.2 0, 12, .inl bes)), (ro 7, .inl (Y.2 1, 12, .inl isr)), (ro 8, .inl (Y.2 0, 64, .inl key)), (ro 9, .inl (Y.2 0, 64, .inl lev)), (ro 10, .inl (Y.2 0, 4, .inl kvi)), (ro 11, .inl (Y.2 0, 4, .inl ksz)), (ro 12, .inl (Y.2 0, 4, .inl krt)), (ro 13, .inl (Y.2 1, 4, .inl ala)), (ro 14, .inl (Y.2 0, 4, .inl fol)), (ro 15, .inl (Y.2 0, 4, .inl (upd cts9 j1 ((cts9 j1) + (nI 0)))))] := hD
              refine lv_iinc (v := nI (k9 + 1)) (lv' := [(5, .int (nI (k9 + 1))), (0, .ref (ro 0)), (1, .int (nI j1)), (2, .int (nI j2)), (3, .int (-1)), (4, .int (nI 1))]) hx hb dX6_show_146 hl (k := 5) rfl (nI_add _ 1) (by decide) rfl (fun ls hl => ?_)
              refine lv_goto (tgt := 100) hx hb dX6_show_149 (by decide) ?_
              exact ih_9 (k9 + 1) (upd cts9 j1 ((cts9 j1) + (nI 0))) _ _ _ (by omega) (by omega) (by omega) (pk_us.trans ((th_a0 _).trans ((th_cf_s hlo9 hx9).2 c_12))) (fun a9 h9 => (pk_un h9).trans (hco a9 h9)) hP hD hS (lv_sub hl [1, 2, 3, 4, 5, 0] rfl)
            refine lv_iconst (v := nI 1) hx hb dX6_show_139 (by decide) ?_
            refine lv_goto (tgt := 144) hx hb dX6_show_140 (by decide) ?_
            refine lv_iadd hx hb dX6_show_144 ?_
            refine th_iast hx hb hK hP hD hS 15 rfl (j := j1) (by omega) (by omega) dX6_show_145 (fun H locs hP hD hS => ?_)
            have hP : va_P Y.1 vwCl [(ro 0, .inr (6, [.int (nI 0), .ref (ro 1), .ref (ro 2), .int (nI S.1), .ref (ro 3), .ref (ro 4), .ref (ro 5), .int (nI S.2.2.2.1), .ref (ro 6), .ref (ro 7), .int stp, .int efr, .int esz, .int etr, .ref (ro 8), .ref (ro 9), .ref (ro 10), .ref (ro 11), .ref (ro 12), .ref (ro 13), .ref (ro 14), .ref (ro 15)])), (ro 1, .inl (Y.2 0, 300, .inl val)), (ro 2, .inl (Y.2 0, 3, .inl siz)), (ro 3, .inl (Y.2 0, 8, .inl tre)), (ro 4, .inl (Y.2 0, 8, .inl spa)), (ro 5, .inl (Y.2 0, 12, .inl pro)), (ro 6, .inl (Y.2 0, 12, .inl bes)), (ro 7, .inl (Y.2 1, 12, .inl isr)), (ro 8, .inl (Y.2 0, 64, .inl key)), (ro 9, .inl (Y.2 0, 64, .inl lev)), (ro 10, .inl (Y.2 0, 4, .inl kvi)), (ro 11, .inl (Y.2 0, 4, .inl ksz)), (ro 12, .inl (Y.2 0, 4, .inl krt)), (ro 13, .inl (Y.2 1, 4, .inl ala)), (ro 14, .inl (Y.2 0, 4, .inl fol)), (ro 15, .inl (Y.2 0, 4, .inl (upd cts9 j1 ((cts9 j1) + (nI 1)))))] _ := hP
            have hD : va_D _ [(ro 0, .inr (6, [.int (nI 0), .ref (ro 1), .ref (ro 2), .int (nI S.1), .ref (ro 3), .ref (ro 4), .ref (ro 5), .int (nI S.2.2.2.1), .ref (ro 6), .ref (ro 7), .int stp, .int efr, .int esz, .int etr, .ref (ro 8), .ref (ro 9), .ref (ro 10), .ref (ro 11), .ref (ro 12), .ref (ro 13), .ref (ro 14), .ref (ro 15)])), (ro 1, .inl (Y.2 0, 300, .inl val)), (ro 2, .inl (Y.2 0, 3, .inl siz)), (ro 3, .inl (Y.2 0, 8, .inl tre)), (ro 4, .inl (Y.2 0, 8, .inl spa)), (ro 5, .inl (Y.2 0, 12, .inl pro)), (ro 6, .inl (Y.2 0, 12, .inl bes)), (ro 7, .inl (Y.2 1, 12, .inl isr)), (ro 8, .inl (Y.2 0, 64, .inl key)), (ro 9, .inl (Y.2 0, 64, .inl lev)), (ro 10, .inl (Y.2 0, 4, .inl kvi)), (ro 11, .inl (Y.2 0, 4, .inl ksz)), (ro 12, .inl (Y.2 0, 4, .inl krt)), (ro 13, .inl (Y.2 1, 4, .inl ala)), (ro 14, .inl (Y.2 0, 4, .inl fol)), (ro 15, .inl (Y.2 0, 4, .inl (upd cts9 j1 ((cts9 j1) + (nI 1)))))] := hD
            refine lv_iinc (v := nI (k9 + 1)) (lv' := [(5, .int (nI (k9 + 1))), (0, .ref (ro 0)), (1, .int (nI j1)), (2, .int (nI j2)), (3, .int (-1)), (4, .int (nI 1))]) hx hb dX6_show_146 hl (k := 5) rfl (nI_add _ 1) (by decide) rfl (fun ls hl => ?_)
            refine lv_goto (tgt := 100) hx hb dX6_show_149 (by decide) ?_
            exact ih_9 (k9 + 1) (upd cts9 j1 ((cts9 j1) + (nI 1))) _ _ _ (by omega) (by omega) (by omega) (pk_us.trans ((th_cf_s hlo9 hx9).1 c_12)) (fun a9 h9 => (pk_un h9).trans (hco a9 h9)) hP hD hS (lv_sub hl [1, 2, 3, 4, 5, 0] rfl)
        exact lp_7 ((S.2.1 j2 - (0)) + 1) (0) (cts) _ _ _ (Nat.lt_succ_self _) (by omega) (by omega) (by rw [Nat.sub_self]; exact (hv.2.2.2.2.2 j1 j1b).1.2.2.2.2) (fun _ _ => rfl) hP hD hS (lv_sub hl [3, 4, 5, 2, 1, 0] rfl)
      · skip
        have hn9 := (hv.2.1 jk hjk).1
        refine th_ti (show ksz j1 = nI kk9 from (hv.2.2.2.2.2 j1 j1b).1.1.trans hW0) ?_
        refine lv_istore_n (lv' := [(3, .int (nI kk9)), (0, .ref (ro 0)), (1, .int (nI j1)), (2, .int (nI j2))]) hx hb dX6_show_35 rfl hl (by decide) rfl (fun ls hl => ?_)
        refine lv_iload_n hx hb dX6_show_36 rfl (lv_at hl 0 rfl) ?_
        refine lv_iconst (v := -1) hx hb dX6_show_37 (by decide) ?_
        refine lv_icmp_eq (tgt := 67) hx hb dX6_show_38 (by decide) (fun c_13 => by exfalso; exact th_nmA (by omega) c_13) (fun c_13 => ?_)
        refine lv_aload_n hx hb dX6_show_41 rfl (lv_at hl 1 rfl) ?_
        refine va_get (D := Y.1) (ci := 6) (v := .ref (ro 2)) (C := RX6) (T := TX6) (N := 22) hx hb hts inX6 hown hK hP 0 rfl rfl 2 (by decide) (hts _ tw_3_157) (fun _ h9 => h9) rfl dX6_show_42 ?_
        refine lv_iload_n hx hb dX6_show_45 rfl (lv_at hl 3 rfl) ?_
        refine th_iald hx hb hK hP 2 rfl (j := j2) (by omega) (by omega) dX6_show_46 ?_
        refine th_ti (show siz j2 = nI (S.2.1 j2) from hs2) ?_
        refine lv_iload_n hx hb dX6_show_47 rfl (lv_at hl 0 rfl) ?_
        refine th_ilt (tgt := 71) hx hb dX6_show_48 (by decide) (by omega) (by omega) (fun c_14 => ?_) (fun c_14 => ?_)
        · skip
          have q3 : ¬ th_tk S j1 j2 := fun z9 => z9.elim (fun z8 => by rw [hKs] at z8; cases z8) (fun z8 => by
            rw [hW0, th_ixN (by omega)] at z8
            exact absurd z8.1 (by omega))
          refine lv_iconst (v := nI 0) hx hb dX6_show_71 (by decide) ?_
          refine lv_istore (lv' := [(4, .int (nI 0)), (3, .int (nI kk9)), (0, .ref (ro 0)), (1, .int (nI j1)), (2, .int (nI j2))]) hx hb dX6_show_72 hl (by decide) rfl (fun ls hl => ?_)
          refine lv_iload hx hb dX6_show_74 (lv_at hl 0 rfl) ?_
          refine th_zne (tgt := 88) hx hb dX6_show_76 (by decide) (by omega) (fun c_15 => by exfalso; omega) (fun c_15 => ?_)
          refine lv_aload_n hx hb dX6_show_79 rfl (lv_at hl 2 rfl) ?_
          refine va_get (D := Y.1) (ci := 6) (v := .ref (ro 13)) (C := RX6) (T := TX6) (N := 22) hx hb hts inX6 hown hK hP 0 rfl rfl 19 (by decide) (hts _ tw_3_174) (fun _ h9 => h9) rfl dX6_show_80 ?_
          refine lv_iload_n hx hb dX6_show_83 rfl (lv_at hl 3 rfl) ?_
          refine lv_iconst (v := nI 1) hx hb dX6_show_84 (by decide) ?_
          refine th_zast hx hb hK hP hD hS 13 rfl (j := j1) (by omega) (by omega) (by first | exact Or.inl rfl | exact Or.inr rfl | assumption) dX6_show_85 (fun H locs hP hD hS => ?_)
          have hP : va_P Y.1 vwCl [(ro 0, .inr (6, [.int (nI 0), .ref (ro 1), .ref (ro 2), .int (nI S.1), .ref (ro 3), .ref (ro 4), .ref (ro 5), .int (nI S.2.2.2.1), .ref (ro 6), .ref (ro 7), .int stp, .int efr, .int esz, .int etr, .ref (ro 8), .ref (ro 9), .ref (ro 10), .ref (ro 11), .ref (ro 12), .ref (ro 13), .ref (ro 14), .ref (ro 15)])), (ro 1, .inl (Y.2 0, 300, .inl val)), (ro 2, .inl (Y.2 0, 3, .inl siz)), (ro 3, .inl (Y.2 0, 8, .inl tre)), (ro 4, .inl (Y.2 0, 8, .inl spa)), (ro 5, .inl (Y.2 0, 12, .inl pro)), (ro 6, .inl (Y.2 0, 12, .inl bes)), (ro 7, .inl (Y.2 1, 12, .inl isr)), (ro 8, .inl (Y.2 0, 64, .inl key)), (ro 9, .inl (Y.2 0, 64, .inl lev)), (ro 10, .inl (Y.2 0, 4, .inl kvi)), (ro 11, .inl (Y.2 0, 4, .inl ksz)), (ro 12, .inl (Y.2 0, 4, .inl krt)), (ro 13, .inl (Y.2 1, 4, .inl (upd ala j1 (nI 1)))), (ro 14, .inl (Y.2 0, 4, .inl fol)), (ro 15, .inl (Y.2 0, 4, .inl cts))] _ := hP
          have hD : va_D _ [(ro 0, .inr (6, [.int (nI 0), .ref (ro 1), .ref (ro 2), .int (nI S.1), .ref (ro 3), .ref (ro 4), .ref (ro 5), .int (nI S.2.2.2.1), .ref (ro 6), .ref (ro 7), .int stp, .int efr, .int esz, .int etr, .ref (ro 8), .ref (ro 9), .ref (ro 10), .ref (ro 11), .ref (ro 12), .ref (ro 13), .ref (ro 14), .ref (ro 15)])), (ro 1, .inl (Y.2 0, 300, .inl val)), (ro 2, .inl (Y.2 0, 3, .inl siz)), (ro 3, .inl (Y.2 0, 8, .inl tre)), (ro 4, .inl (Y.2 0, 8, .inl spa)), (ro 5, .inl (Y.2 0, 12, .inl pro)), (ro 6, .inl (Y.2 0, 12, .inl bes)), (ro 7, .inl (Y.2 1, 12, .inl isr)), (ro 8, .inl (Y.2 0, 64, .inl key)), (ro 9, .inl (Y.2 0, 64, .inl lev)), (ro 10, .inl (Y.2 0, 4, .inl kvi)), (ro 11, .inl (Y.2 0, 4, .inl ksz)), (ro 12, .inl (Y.2 0, 4, .inl krt)), (ro 13, .inl (Y.2 1, 4, .inl (upd ala j1 (nI 1)))), (ro 14, .inl (Y.2 0, 4, .inl fol)), (ro 15, .inl (Y.2 0, 4, .inl cts))] := hD
          refine lv_iconst (v := nI 0) hx hb dX6_show_86 (by decide) ?_
          refine th_zret hx hb hr hlk hQ hS dX6_show_87 (Nat.le_of_ble_eq_true rfl) (Nat.le_of_ble_eq_true rfl) (by first | exact Or.inl rfl | exact Or.inr rfl | assumption | exact th_b01 _) ?_
          show th_ro Y ro (_) _ _
          unfold sp_show
          simp only [zj1, zj2]
          rw [th_ifT ⟨q1, q2⟩]
          rw [th_ifF q3]
          exact th_roT (rfl) (th_rgI hP (th_RvW hv j1b (hv.2.2.2.2.2 j1 j1b).2.2.1 (Or.inr rfl) (hv.2.2.2.2.2 j1 j1b).2.1 (hv.2.2.2.2.2 j1 j1b).1.1 (hv.2.2.2.2.2 j1 j1b).1.2.1 pk_us (hv.2.2.2.2.2 j1 j1b).1.2.2.2.1 (hv.2.2.2.2.2 j1 j1b).1.2.2.2.2 (fun a9 h9 => ⟨rfl, rfl, rfl, pk_un h9, rfl, rfl⟩)))
          
        refine lv_aload_n hx hb dX6_show_51 rfl (lv_at hl 1 rfl) ?_
        refine lv_iload_n hx hb dX6_show_52 rfl (lv_at hl 3 rfl) ?_
        refine lv_iconst (v := nI 0) hx hb dX6_show_53 (by decide) ?_
        refine lv_iload_n hx hb dX6_show_54 rfl (lv_at hl 0 rfl) ?_
        refine th_callV hx hb hml hown hts ⟨hK, hN⟩ hl hS (hP 0 _ rfl) rfl (rest := []) (c_X6_rootOf l Y _ ro (nI 0) stp efr esz etr S.1 S.2.2.2.1 val tre spa (hP.sub (ws' := [(ro 0, .inr (6, [.int (nI 0), .ref (ro 1), .ref (ro 2), .int (nI S.1), .ref (ro 3), .ref (ro 4), .ref (ro 5), .int (nI S.2.2.2.1), .ref (ro 6), .ref (ro 7), .int stp, .int efr, .int esz, .int etr, .ref (ro 8), .ref (ro 9), .ref (ro 10), .ref (ro 11), .ref (ro 12), .ref (ro 13), .ref (ro 14), .ref (ro 15)])), (ro 1, .inl (Y.2 0, 300, .inl val)), (ro 3, .inl (Y.2 0, 8, .inl tre)), (ro 4, .inl (Y.2 0, 8, .inl spa))]) [0, 1, 3, 4] rfl) ((hD.sub (ws' := [(ro 0, .inr (6, [.int (nI 0), .ref (ro 1), .ref (ro 2), .int (nI S.1), .ref (ro 3), .ref (ro 4), .ref (ro 5), .int (nI S.2.2.2.1), .ref (ro 6), .ref (ro 7), .int stp, .int efr, .int esz, .int etr, .ref (ro 8), .ref (ro 9), .ref (ro 10), .ref (ro 11), .ref (ro 12), .ref (ro 13), .ref (ro 14), .ref (ro 15)])), (ro 1, .inl (Y.2 0, 300, .inl val)), (ro 3, .inl (Y.2 0, 8, .inl tre)), (ro 4, .inl (Y.2 0, 8, .inl spa))]) [0, 1, 3, 4] (by decide) rfl).weaken (fun _ _ _ _ => trivial)) j2 0 kk9 (by omega) (by omega)) ok_X6_rootOf tw_4_33 dX6_show_55 rfl rfl (Nat.le_of_ble_eq_true rfl) ⟨Nat.le_of_ble_eq_true rfl, Nat.le_of_ble_eq_true rfl⟩ ⟨Nat.le_of_ble_eq_true rfl, Nat.le_of_ble_eq_true rfl⟩ (th_subL [0, 1, 3, 4] rfl) (th_ki (fun rz9 H locs hp hsm hS => ?_))
        obtain ⟨hrz, z_16t, z_16s, hPc⟩ := hp
        have hP : va_P Y.1 vwCl [(ro 0, .inr (6, [.int (nI 0), .ref (ro 1), .ref (ro 2), .int (nI S.1), .ref (ro 3), .ref (ro 4), .ref (ro 5), .int (nI S.2.2.2.1), .ref (ro 6), .ref (ro 7), .int stp, .int efr, .int esz, .int etr, .ref (ro 8), .ref (ro 9), .ref (ro 10), .ref (ro 11), .ref (ro 12), .ref (ro 13), .ref (ro 14), .ref (ro 15)])), (ro 1, .inl (Y.2 0, 300, .inl val)), (ro 2, .inl (Y.2 0, 3, .inl siz)), (ro 3, .inl (Y.2 0, 8, .inl z_16t)), (ro 4, .inl (Y.2 0, 8, .inl z_16s)), (ro 5, .inl (Y.2 0, 12, .inl pro)), (ro 6, .inl (Y.2 0, 12, .inl bes)), (ro 7, .inl (Y.2 1, 12, .inl isr)), (ro 8, .inl (Y.2 0, 64, .inl key)), (ro 9, .inl (Y.2 0, 64, .inl lev)), (ro 10, .inl (Y.2 0, 4, .inl kvi)), (ro 11, .inl (Y.2 0, 4, .inl ksz)), (ro 12, .inl (Y.2 0, 4, .inl krt)), (ro 13, .inl (Y.2 1, 4, .inl ala)), (ro 14, .inl (Y.2 0, 4, .inl fol)), (ro 15, .inl (Y.2 0, 4, .inl cts))] _ := (th_join (wr := [(ro 2, .inl (Y.2 0, 3, .inl siz)), (ro 5, .inl (Y.2 0, 12, .inl pro)), (ro 6, .inl (Y.2 0, 12, .inl bes)), (ro 7, .inl (Y.2 1, 12, .inl isr)), (ro 8, .inl (Y.2 0, 64, .inl key)), (ro 9, .inl (Y.2 0, 64, .inl lev)), (ro 10, .inl (Y.2 0, 4, .inl kvi)), (ro 11, .inl (Y.2 0, 4, .inl ksz)), (ro 12, .inl (Y.2 0, 4, .inl krt)), (ro 13, .inl (Y.2 1, 4, .inl ala)), (ro 14, .inl (Y.2 0, 4, .inl fol)), (ro 15, .inl (Y.2 0, 4, .inl cts))]) hP hD [2, 5, 6, 7, 8, 9, 10, 11, 12, 13, 14, 15] [0, 1, 3, 4] rfl rfl (by decide) hsm hPc).sub [12, 13, 0, 14, 15, 1, 2, 3, 4, 5, 6, 7, 8, 9, 10, 11] rfl
        have hD : va_D _ [(ro 0, .inr (6, [.int (nI 0), .ref (ro 1), .ref (ro 2), .int (nI S.1), .ref (ro 3), .ref (ro 4), .ref (ro 5), .int (nI S.2.2.2.1), .ref (ro 6), .ref (ro 7), .int stp, .int efr, .int esz, .int etr, .ref (ro 8), .ref (ro 9), .ref (ro 10), .ref (ro 11), .ref (ro 12), .ref (ro 13), .ref (ro 14), .ref (ro 15)])), (ro 1, .inl (Y.2 0, 300, .inl val)), (ro 2, .inl (Y.2 0, 3, .inl siz)), (ro 3, .inl (Y.2 0, 8, .inl z_16t)), (ro 4, .inl (Y.2 0, 8, .inl z_16s)), (ro 5, .inl (Y.2 0, 12, .inl pro)), (ro 6, .inl (Y.2 0, 12, .inl bes)), (ro 7, .inl (Y.2 1, 12, .inl isr)), (ro 8, .inl (Y.2 0, 64, .inl key)), (ro 9, .inl (Y.2 0, 64, .inl lev)), (ro 10, .inl (Y.2 0, 4, .inl kvi)), (ro 11, .inl (Y.2 0, 4, .inl ksz)), (ro 12, .inl (Y.2 0, 4, .inl krt)), (ro 13, .inl (Y.2 1, 4, .inl ala)), (ro 14, .inl (Y.2 0, 4, .inl fol)), (ro 15, .inl (Y.2 0, 4, .inl cts))] := th_Dsame hD rfl
        subst hrz
        refine th_ti (th_rt_c _ _ _ (fun k9 hk9 => (hf2 _ (by omega)).1)) ?_
        refine lv_aload_n hx hb dX6_show_58 rfl (lv_at hl 1 rfl) ?_
        refine va_get (D := Y.1) (ci := 6) (v := .ref (ro 12)) (C := RX6) (T := TX6) (N := 22) hx hb hts inX6 hown hK hP 0 rfl rfl 18 (by decide) (hts _ tw_3_173) (fun _ h9 => h9) rfl dX6_show_59 ?_
        refine lv_iload_n hx hb dX6_show_62 rfl (lv_at hl 2 rfl) ?_
        refine th_iald hx hb hK hP 12 rfl (j := j1) (by omega) (by omega) dX6_show_63 ?_
        refine th_ti (show krt j1 = S.2.2.2.2.2.2.2 j1 1 from (hv.2.2.2.2.2 j1 j1b).1.2.1) ?_
        refine lv_icmp_ne (tgt := 71) hx hb dX6_show_64 (by decide) (fun c_17 => ?_) (fun c_17 => ?_)
        · skip
          have q3 : ¬ th_tk S j1 j2 := fun z9 => z9.elim (fun z8 => by rw [hKs] at z8; cases z8) (fun z8 => by
            rw [hW0, th_ixN (by omega)] at z8
            exact c_17 z8.2)
          refine lv_iconst (v := nI 0) hx hb dX6_show_71 (by decide) ?_
          refine lv_istore (lv' := [(4, .int (nI 0)), (3, .int (nI kk9)), (0, .ref (ro 0)), (1, .int (nI j1)), (2, .int (nI j2))]) hx hb dX6_show_72 hl (by decide) rfl (fun ls hl => ?_)
          refine lv_iload hx hb dX6_show_74 (lv_at hl 0 rfl) ?_
          refine th_zne (tgt := 88) hx hb dX6_show_76 (by decide) (by omega) (fun c_18 => by exfalso; omega) (fun c_18 => ?_)
          refine lv_aload_n hx hb dX6_show_79 rfl (lv_at hl 2 rfl) ?_
          refine va_get (D := Y.1) (ci := 6) (v := .ref (ro 13)) (C := RX6) (T := TX6) (N := 22) hx hb hts inX6 hown hK hP 0 rfl rfl 19 (by decide) (hts _ tw_3_174) (fun _ h9 => h9) rfl dX6_show_80 ?_
          refine lv_iload_n hx hb dX6_show_83 rfl (lv_at hl 3 rfl) ?_
          refine lv_iconst (v := nI 1) hx hb dX6_show_84 (by decide) ?_
          refine th_zast hx hb hK hP hD hS 13 rfl (j := j1) (by omega) (by omega) (by first | exact Or.inl rfl | exact Or.inr rfl | assumption) dX6_show_85 (fun H locs hP hD hS => ?_)
          have hP : va_P Y.1 vwCl [(ro 0, .inr (6, [.int (nI 0), .ref (ro 1), .ref (ro 2), .int (nI S.1), .ref (ro 3), .ref (ro 4), .ref (ro 5), .int (nI S.2.2.2.1), .ref (ro 6), .ref (ro 7), .int stp, .int efr, .int esz, .int etr, .ref (ro 8), .ref (ro 9), .ref (ro 10), .ref (ro 11), .ref (ro 12), .ref (ro 13), .ref (ro 14), .ref (ro 15)])), (ro 1, .inl (Y.2 0, 300, .inl val)), (ro 2, .inl (Y.2 0, 3, .inl siz)), (ro 3, .inl (Y.2 0, 8, .inl z_16t)), (ro 4, .inl (Y.2 0, 8, .inl z_16s)), (ro 5, .inl (Y.2 0, 12, .inl pro)), (ro 6, .inl (Y.2 0, 12, .inl bes)), (ro 7, .inl (Y.2 1, 12, .inl isr)), (ro 8, .inl (Y.2 0, 64, .inl key)), (ro 9, .inl (Y.2 0, 64, .inl lev)), (ro 10, .inl (Y.2 0, 4, .inl kvi)), (ro 11, .inl (Y.2 0, 4, .inl ksz)), (ro 12, .inl (Y.2 0, 4, .inl krt)), (ro 13, .inl (Y.2 1, 4, .inl (upd ala j1 (nI 1)))), (ro 14, .inl (Y.2 0, 4, .inl fol)), (ro 15, .inl (Y.2 0, 4, .inl cts))] _ := hP
          have hD : va_D _ [(ro 0, .inr (6, [.int (nI 0), .ref (ro 1), .ref (ro 2), .int (nI S.1), .ref (ro 3), .ref (ro 4), .ref (ro 5), .int (nI S.2.2.2.1), .ref (ro 6), .ref (ro 7), .int stp, .int efr, .int esz, .int etr, .ref (ro 8), .ref (ro 9), .ref (ro 10), .ref (ro 11), .ref (ro 12), .ref (ro 13), .ref (ro 14), .ref (ro 15)])), (ro 1, .inl (Y.2 0, 300, .inl val)), (ro 2, .inl (Y.2 0, 3, .inl siz)), (ro 3, .inl (Y.2 0, 8, .inl z_16t)), (ro 4, .inl (Y.2 0, 8, .inl z_16s)), (ro 5, .inl (Y.2 0, 12, .inl pro)), (ro 6, .inl (Y.2 0, 12, .inl bes)), (ro 7, .inl (Y.2 1, 12, .inl isr)), (ro 8, .inl (Y.2 0, 64, .inl key)), (ro 9, .inl (Y.2 0, 64, .inl lev)), (ro 10, .inl (Y.2 0, 4, .inl kvi)), (ro 11, .inl (Y.2 0, 4, .inl ksz)), (ro 12, .inl (Y.2 0, 4, .inl krt)), (ro 13, .inl (Y.2 1, 4, .inl (upd ala j1 (nI 1)))), (ro 14, .inl (Y.2 0, 4, .inl fol)), (ro 15, .inl (Y.2 0, 4, .inl cts))] := hD
          refine lv_iconst (v := nI 0) hx hb dX6_show_86 (by decide) ?_
          refine th_zret hx hb hr hlk hQ hS dX6_show_87 (Nat.le_of_ble_eq_true rfl) (Nat.le_of_ble_eq_true rfl) (by first | exact Or.inl rfl | exact Or.inr rfl | assumption | exact th_b01 _) ?_
          show th_ro Y ro (_) _ _
          unfold sp_show
          simp only [zj1, zj2]
          rw [th_ifT ⟨q1, q2⟩]
          rw [th_ifF q3]
          exact th_roT (rfl) (th_rgI hP (th_RvW hv j1b (hv.2.2.2.2.2 j1 j1b).2.2.1 (Or.inr rfl) (hv.2.2.2.2.2 j1 j1b).2.1 (hv.2.2.2.2.2 j1 j1b).1.1 (hv.2.2.2.2.2 j1 j1b).1.2.1 pk_us (hv.2.2.2.2.2 j1 j1b).1.2.2.2.1 (hv.2.2.2.2.2 j1 j1b).1.2.2.2.2 (fun a9 h9 => ⟨rfl, rfl, rfl, pk_un h9, rfl, rfl⟩)))
          
        have q3 : th_tk S j1 j2 := Or.inr (by rw [hW0, th_ixN (by omega)]; exact ⟨by omega, c_17⟩)
        have hlo : th_lo S j1 = kk9 := by
          unfold th_lo
          rw [hKs]
          show th_ix (S.2.2.2.2.2.2.2 j1 0) = kk9
          rw [hW0, th_ixN (by omega)]
        refine lv_iconst (v := nI 1) hx hb dX6_show_67 (by decide) ?_
        refine lv_goto (tgt := 72) hx hb dX6_show_68 (by decide) ?_
        refine lv_istore (lv' := [(4, .int (nI 1)), (3, .int (nI kk9)), (0, .ref (ro 0)), (1, .int (nI j1)), (2, .int (nI j2))]) hx hb dX6_show_72 hl (by decide) rfl (fun ls hl => ?_)
        refine lv_iload hx hb dX6_show_74 (lv_at hl 0 rfl) ?_
        refine th_zne (tgt := 88) hx hb dX6_show_76 (by decide) (by omega) (fun c_19 => ?_) (fun c_19 => by exfalso; omega)
        refine lv_iload_n hx hb dX6_show_88 rfl (lv_at hl 1 rfl) ?_
        refine lv_iconst (v := -1) hx hb dX6_show_89 (by decide) ?_
        refine lv_icmp_ne (tgt := 97) hx hb dX6_show_90 (by decide) (fun c_20 => ?_) (fun c_20 => by exfalso; exact th_nmA (by omega) c_20)
        refine lv_iload_n hx hb dX6_show_97 rfl (lv_at hl 1 rfl) ?_
        refine lv_istore (lv' := [(5, .int (nI kk9)), (4, .int (nI 1)), (3, .int (nI kk9)), (0, .ref (ro 0)), (1, .int (nI j1)), (2, .int (nI j2))]) hx hb dX6_show_98 hl (by decide) rfl (fun ls hl => ?_)
        have lp_21 : ∀ (n_22 : Nat) (k9 : Nat) (cts9 : Nat → Int32) (H : Heap) (locs : List Loc) (ls : Array Slot), S.2.1 j2 - k9 < n_22 → (k9 ≤ S.2.1 j2) → (kk9 ≤ k9) → (cts9 j1 = th_cf (S.2.2.1 j2) (S.2.2.2.2.2.2.2 j1 3) (S.2.2.2.2.2.2.2 j1 4) kk9 (k9 - kk9)) → (∀ a9, a9 ≠ j1 → cts9 a9 = cts a9) → va_P Y.1 vwCl [(ro 0, .inr (6, [.int (nI 0), .ref (ro 1), .ref (ro 2), .int (nI S.1), .ref (ro 3), .ref (ro 4), .ref (ro 5), .int (nI S.2.2.2.1), .ref (ro 6), .ref (ro 7), .int stp, .int efr, .int esz, .int etr, .ref (ro 8), .ref (ro 9), .ref (ro 10), .ref (ro 11), .ref (ro 12), .ref (ro 13), .ref (ro 14), .ref (ro 15)])), (ro 1, .inl (Y.2 0, 300, .inl val)), (ro 2, .inl (Y.2 0, 3, .inl siz)), (ro 3, .inl (Y.2 0, 8, .inl z_16t)), (ro 4, .inl (Y.2 0, 8, .inl z_16s)), (ro 5, .inl (Y.2 0, 12, .inl pro)), (ro 6, .inl (Y.2 0, 12, .inl bes)), (ro 7, .inl (Y.2 1, 12, .inl isr)), (ro 8, .inl (Y.2 0, 64, .inl key)), (ro 9, .inl (Y.2 0, 64, .inl lev)), (ro 10, .inl (Y.2 0, 4, .inl kvi)), (ro 11, .inl (Y.2 0, 4, .inl ksz)), (ro 12, .inl (Y.2 0, 4, .inl krt)), (ro 13, .inl (Y.2 1, 4, .inl ala)), (ro 14, .inl (Y.2 0, 4, .inl fol)), (ro 15, .inl (Y.2 0, 4, .inl cts9))] H → va_D (fun z => z ∈ [ro 0, ro 1, ro 2, ro 3, ro 4, ro 5, ro 6, ro 7, ro 8, ro 9, ro 10, ro 11, ro 12, ro 13, ro 14, ro 15]) [(ro 0, .inr (6, [.int (nI 0), .ref (ro 1), .ref (ro 2), .int (nI S.1), .ref (ro 3), .ref (ro 4), .ref (ro 5), .int (nI S.2.2.2.1), .ref (ro 6), .ref (ro 7), .int stp, .int efr, .int esz, .int etr, .ref (ro 8), .ref (ro 9), .ref (ro 10), .ref (ro 11), .ref (ro 12), .ref (ro 13), .ref (ro 14), .ref (ro 15)])), (ro 1, .inl (Y.2 0, 300, .inl val)), (ro 2, .inl (Y.2 0, 3, .inl siz)), (ro 3, .inl (Y.2 0, 8, .inl z_16t)), (ro 4, .inl (Y.2 0, 8, .inl z_16s)), (ro 5, .inl (Y.2 0, 12, .inl pro)), (ro 6, .inl (Y.2 0, 12, .inl bes)), (ro 7, .inl (Y.2 1, 12, .inl isr)), (ro 8, .inl (Y.2 0, 64, .inl key)), (ro 9, .inl (Y.2 0, 64, .inl lev)), (ro 10, .inl (Y.2 0, 4, .inl kvi)), (ro 11, .inl (Y.2 0, 4, .inl ksz)), (ro 12, .inl (Y.2 0, 4, .inl krt)), (ro 13, .inl (Y.2 1, 4, .inl ala)), (ro 14, .inl (Y.2 0, 4, .inl fol)), (ro 15, .inl (Y.2 0, 4, .inl cts9))] → va_S (fun z => z ∈ [ro 0, ro 1, ro 2, ro 3, ro 4, ro 5, ro 6, ro 7, ro 8, ro 9, ro 10, ro 11, ro 12, ro 13, ro 14, ro 15]) H0 H locs → lv_has ls 6 [(0, .ref (ro 0)), (1, .int (nI j1)), (2, .int (nI j2)), (3, .int (nI kk9)), (4, .int (nI 1)), (5, .int (nI k9))] → W p l e (th_rm 6 0 0) s m args below meth c H locs 0 0 Q (F0 m 100 ls []) := by
          intro n_22; induction n_22 with
          | zero => intros; exfalso; omega
          | succ n_22 ih_23 =>
            intro k9 cts9 H locs ls hmz hk9 hlo9 hx9 hco hP hD hS hl
            refine lv_iload hx hb dX6_show_100 (lv_at hl 5 rfl) ?_
            refine lv_aload_n hx hb dX6_show_102 rfl (lv_at hl 0 rfl) ?_
            refine va_get (D := Y.1) (ci := 6) (v := .ref (ro 2)) (C := RX6) (T := TX6) (N := 22) hx hb hts inX6 hown hK hP 0 rfl rfl 2 (by decide) (hts _ tw_3_157) (fun _ h9 => h9) rfl dX6_show_103 ?_
            refine lv_iload_n hx hb dX6_show_106 rfl (lv_at hl 2 rfl) ?_
            refine th_iald hx hb hK hP 2 rfl (j := j2) (by omega) (by omega) dX6_show_107 ?_
            refine th_ti (show siz j2 = nI (S.2.1 j2) from hs2) ?_
            refine th_ige (tgt := 152) hx hb dX6_show_108 (by decide) (by omega) (by omega) (fun c_24 => ?_) (fun c_24 => ?_)
            · skip
              refine lv_aload_n hx hb dX6_show_152 rfl (lv_at hl 0 rfl) ?_
              refine va_get (D := Y.1) (ci := 6) (v := .ref (ro 10)) (C := RX6) (T := TX6) (N := 22) hx hb hts inX6 hown hK hP 0 rfl rfl 16 (by decide) (hts _ tw_3_171) (fun _ h9 => h9) rfl dX6_show_153 ?_
              refine lv_iload_n hx hb dX6_show_156 rfl (lv_at hl 1 rfl) ?_
              refine lv_iload_n hx hb dX6_show_157 rfl (lv_at hl 2 rfl) ?_
              refine th_iast hx hb hK hP hD hS 10 rfl (j := j1) (by omega) (by omega) dX6_show_158 (fun H locs hP hD hS => ?_)
              have hP : va_P Y.1 vwCl [(ro 0, .inr (6, [.int (nI 0), .ref (ro 1), .ref (ro 2), .int (nI S.1), .ref (ro 3), .ref (ro 4), .ref (ro 5), .int (nI S.2.2.2.1), .ref (ro 6), .ref (ro 7), .int stp, .int efr, .int esz, .int etr, .ref (ro 8), .ref (ro 9), .ref (ro 10), .ref (ro 11), .ref (ro 12), .ref (ro 13), .ref (ro 14), .ref (ro 15)])), (ro 1, .inl (Y.2 0, 300, .inl val)), (ro 2, .inl (Y.2 0, 3, .inl siz)), (ro 3, .inl (Y.2 0, 8, .inl z_16t)), (ro 4, .inl (Y.2 0, 8, .inl z_16s)), (ro 5, .inl (Y.2 0, 12, .inl pro)), (ro 6, .inl (Y.2 0, 12, .inl bes)), (ro 7, .inl (Y.2 1, 12, .inl isr)), (ro 8, .inl (Y.2 0, 64, .inl key)), (ro 9, .inl (Y.2 0, 64, .inl lev)), (ro 10, .inl (Y.2 0, 4, .inl (upd kvi j1 (nI j2)))), (ro 11, .inl (Y.2 0, 4, .inl ksz)), (ro 12, .inl (Y.2 0, 4, .inl krt)), (ro 13, .inl (Y.2 1, 4, .inl ala)), (ro 14, .inl (Y.2 0, 4, .inl fol)), (ro 15, .inl (Y.2 0, 4, .inl cts9))] _ := hP
              have hD : va_D _ [(ro 0, .inr (6, [.int (nI 0), .ref (ro 1), .ref (ro 2), .int (nI S.1), .ref (ro 3), .ref (ro 4), .ref (ro 5), .int (nI S.2.2.2.1), .ref (ro 6), .ref (ro 7), .int stp, .int efr, .int esz, .int etr, .ref (ro 8), .ref (ro 9), .ref (ro 10), .ref (ro 11), .ref (ro 12), .ref (ro 13), .ref (ro 14), .ref (ro 15)])), (ro 1, .inl (Y.2 0, 300, .inl val)), (ro 2, .inl (Y.2 0, 3, .inl siz)), (ro 3, .inl (Y.2 0, 8, .inl z_16t)), (ro 4, .inl (Y.2 0, 8, .inl z_16s)), (ro 5, .inl (Y.2 0, 12, .inl pro)), (ro 6, .inl (Y.2 0, 12, .inl bes)), (ro 7, .inl (Y.2 1, 12, .inl isr)), (ro 8, .inl (Y.2 0, 64, .inl key)), (ro 9, .inl (Y.2 0, 64, .inl lev)), (ro 10, .inl (Y.2 0, 4, .inl (upd kvi j1 (nI j2)))), (ro 11, .inl (Y.2 0, 4, .inl ksz)), (ro 12, .inl (Y.2 0, 4, .inl krt)), (ro 13, .inl (Y.2 1, 4, .inl ala)), (ro 14, .inl (Y.2 0, 4, .inl fol)), (ro 15, .inl (Y.2 0, 4, .inl cts9))] := hD
              refine lv_aload_n hx hb dX6_show_159 rfl (lv_at hl 0 rfl) ?_
              refine va_get (D := Y.1) (ci := 6) (v := .ref (ro 11)) (C := RX6) (T := TX6) (N := 22) hx hb hts inX6 hown hK hP 0 rfl rfl 17 (by decide) (hts _ tw_3_172) (fun _ h9 => h9) rfl dX6_show_160 ?_
              refine lv_iload_n hx hb dX6_show_163 rfl (lv_at hl 1 rfl) ?_
              refine lv_aload_n hx hb dX6_show_164 rfl (lv_at hl 0 rfl) ?_
              refine va_get (D := Y.1) (ci := 6) (v := .ref (ro 2)) (C := RX6) (T := TX6) (N := 22) hx hb hts inX6 hown hK hP 0 rfl rfl 2 (by decide) (hts _ tw_3_157) (fun _ h9 => h9) rfl dX6_show_165 ?_
              refine lv_iload_n hx hb dX6_show_168 rfl (lv_at hl 2 rfl) ?_
              refine th_iald hx hb hK hP 2 rfl (j := j2) (by omega) (by omega) dX6_show_169 ?_
              refine th_ti (show siz j2 = nI (S.2.1 j2) from hs2) ?_
              refine th_iast hx hb hK hP hD hS 11 rfl (j := j1) (by omega) (by omega) dX6_show_170 (fun H locs hP hD hS => ?_)
              have hP : va_P Y.1 vwCl [(ro 0, .inr (6, [.int (nI 0), .ref (ro 1), .ref (ro 2), .int (nI S.1), .ref (ro 3), .ref (ro 4), .ref (ro 5), .int (nI S.2.2.2.1), .ref (ro 6), .ref (ro 7), .int stp, .int efr, .int esz, .int etr, .ref (ro 8), .ref (ro 9), .ref (ro 10), .ref (ro 11), .ref (ro 12), .ref (ro 13), .ref (ro 14), .ref (ro 15)])), (ro 1, .inl (Y.2 0, 300, .inl val)), (ro 2, .inl (Y.2 0, 3, .inl siz)), (ro 3, .inl (Y.2 0, 8, .inl z_16t)), (ro 4, .inl (Y.2 0, 8, .inl z_16s)), (ro 5, .inl (Y.2 0, 12, .inl pro)), (ro 6, .inl (Y.2 0, 12, .inl bes)), (ro 7, .inl (Y.2 1, 12, .inl isr)), (ro 8, .inl (Y.2 0, 64, .inl key)), (ro 9, .inl (Y.2 0, 64, .inl lev)), (ro 10, .inl (Y.2 0, 4, .inl (upd kvi j1 (nI j2)))), (ro 11, .inl (Y.2 0, 4, .inl (upd ksz j1 (nI (S.2.1 j2))))), (ro 12, .inl (Y.2 0, 4, .inl krt)), (ro 13, .inl (Y.2 1, 4, .inl ala)), (ro 14, .inl (Y.2 0, 4, .inl fol)), (ro 15, .inl (Y.2 0, 4, .inl cts9))] _ := hP
              have hD : va_D _ [(ro 0, .inr (6, [.int (nI 0), .ref (ro 1), .ref (ro 2), .int (nI S.1), .ref (ro 3), .ref (ro 4), .ref (ro 5), .int (nI S.2.2.2.1), .ref (ro 6), .ref (ro 7), .int stp, .int efr, .int esz, .int etr, .ref (ro 8), .ref (ro 9), .ref (ro 10), .ref (ro 11), .ref (ro 12), .ref (ro 13), .ref (ro 14), .ref (ro 15)])), (ro 1, .inl (Y.2 0, 300, .inl val)), (ro 2, .inl (Y.2 0, 3, .inl siz)), (ro 3, .inl (Y.2 0, 8, .inl z_16t)), (ro 4, .inl (Y.2 0, 8, .inl z_16s)), (ro 5, .inl (Y.2 0, 12, .inl pro)), (ro 6, .inl (Y.2 0, 12, .inl bes)), (ro 7, .inl (Y.2 1, 12, .inl isr)), (ro 8, .inl (Y.2 0, 64, .inl key)), (ro 9, .inl (Y.2 0, 64, .inl lev)), (ro 10, .inl (Y.2 0, 4, .inl (upd kvi j1 (nI j2)))), (ro 11, .inl (Y.2 0, 4, .inl (upd ksz j1 (nI (S.2.1 j2))))), (ro 12, .inl (Y.2 0, 4, .inl krt)), (ro 13, .inl (Y.2 1, 4, .inl ala)), (ro 14, .inl (Y.2 0, 4, .inl fol)), (ro 15, .inl (Y.2 0, 4, .inl cts9))] := hD
              refine lv_aload_n hx hb dX6_show_171 rfl (lv_at hl 0 rfl) ?_
              refine va_get (D := Y.1) (ci := 6) (v := .ref (ro 12)) (C := RX6) (T := TX6) (N := 22) hx hb hts inX6 hown hK hP 0 rfl rfl 18 (by decide) (hts _ tw_3_173) (fun _ h9 => h9) rfl dX6_show_172 ?_
              refine lv_iload_n hx hb dX6_show_175 rfl (lv_at hl 1 rfl) ?_
              refine lv_aload_n hx hb dX6_show_176 rfl (lv_at hl 0 rfl) ?_
              refine lv_iload_n hx hb dX6_show_177 rfl (lv_at hl 2 rfl) ?_
              refine lv_iconst (v := nI 0) hx hb dX6_show_178 (by decide) ?_
              refine lv_aload_n hx hb dX6_show_179 rfl (lv_at hl 0 rfl) ?_
              refine va_get (D := Y.1) (ci := 6) (v := .ref (ro 2)) (C := RX6) (T := TX6) (N := 22) hx hb hts inX6 hown hK hP 0 rfl rfl 2 (by decide) (hts _ tw_3_157) (fun _ h9 => h9) rfl dX6_show_180 ?_
              refine lv_iload_n hx hb dX6_show_183 rfl (lv_at hl 2 rfl) ?_
              refine th_iald hx hb hK hP 2 rfl (j := j2) (by omega) (by omega) dX6_show_184 ?_
              refine th_ti (show siz j2 = nI (S.2.1 j2) from hs2) ?_
              refine th_callV hx hb hml hown hts ⟨hK, hN⟩ hl hS (hP 0 _ rfl) rfl (rest := [.int (nI j1), .ref (ro 12)]) (c_X6_rootOf l Y _ ro (nI 0) stp efr esz etr S.1 S.2.2.2.1 val z_16t z_16s (hP.sub (ws' := [(ro 0, .inr (6, [.int (nI 0), .ref (ro 1), .ref (ro 2), .int (nI S.1), .ref (ro 3), .ref (ro 4), .ref (ro 5), .int (nI S.2.2.2.1), .ref (ro 6), .ref (ro 7), .int stp, .int efr, .int esz, .int etr, .ref (ro 8), .ref (ro 9), .ref (ro 10), .ref (ro 11), .ref (ro 12), .ref (ro 13), .ref (ro 14), .ref (ro 15)])), (ro 1, .inl (Y.2 0, 300, .inl val)), (ro 3, .inl (Y.2 0, 8, .inl z_16t)), (ro 4, .inl (Y.2 0, 8, .inl z_16s))]) [0, 1, 3, 4] rfl) ((hD.sub (ws' := [(ro 0, .inr (6, [.int (nI 0), .ref (ro 1), .ref (ro 2), .int (nI S.1), .ref (ro 3), .ref (ro 4), .ref (ro 5), .int (nI S.2.2.2.1), .ref (ro 6), .ref (ro 7), .int stp, .int efr, .int esz, .int etr, .ref (ro 8), .ref (ro 9), .ref (ro 10), .ref (ro 11), .ref (ro 12), .ref (ro 13), .ref (ro 14), .ref (ro 15)])), (ro 1, .inl (Y.2 0, 300, .inl val)), (ro 3, .inl (Y.2 0, 8, .inl z_16t)), (ro 4, .inl (Y.2 0, 8, .inl z_16s))]) [0, 1, 3, 4] (by decide) rfl).weaken (fun _ _ _ _ => trivial)) j2 0 (S.2.1 j2) (by omega) (by omega)) ok_X6_rootOf tw_4_33 dX6_show_185 rfl rfl (Nat.le_of_ble_eq_true rfl) ⟨Nat.le_of_ble_eq_true rfl, Nat.le_of_ble_eq_true rfl⟩ ⟨Nat.le_of_ble_eq_true rfl, Nat.le_of_ble_eq_true rfl⟩ (th_subL [0, 1, 3, 4] rfl) (th_ki (fun rz9 H locs hp hsm hS => ?_))
              obtain ⟨hrz, z_25t, z_25s, hPc⟩ := hp
              have hP : va_P Y.1 vwCl [(ro 0, .inr (6, [.int (nI 0), .ref (ro 1), .ref (ro 2), .int (nI S.1), .ref (ro 3), .ref (ro 4), .ref (ro 5), .int (nI S.2.2.2.1), .ref (ro 6), .ref (ro 7), .int stp, .int efr, .int esz, .int etr, .ref (ro 8), .ref (ro 9), .ref (ro 10), .ref (ro 11), .ref (ro 12), .ref (ro 13), .ref (ro 14), .ref (ro 15)])), (ro 1, .inl (Y.2 0, 300, .inl val)), (ro 2, .inl (Y.2 0, 3, .inl siz)), (ro 3, .inl (Y.2 0, 8, .inl z_25t)), (ro 4, .inl (Y.2 0, 8, .inl z_25s)), (ro 5, .inl (Y.2 0, 12, .inl pro)), (ro 6, .inl (Y.2 0, 12, .inl bes)), (ro 7, .inl (Y.2 1, 12, .inl isr)), (ro 8, .inl (Y.2 0, 64, .inl key)), (ro 9, .inl (Y.2 0, 64, .inl lev)), (ro 10, .inl (Y.2 0, 4, .inl (upd kvi j1 (nI j2)))), (ro 11, .inl (Y.2 0, 4, .inl (upd ksz j1 (nI (S.2.1 j2))))), (ro 12, .inl (Y.2 0, 4, .inl krt)), (ro 13, .inl (Y.2 1, 4, .inl ala)), (ro 14, .inl (Y.2 0, 4, .inl fol)), (ro 15, .inl (Y.2 0, 4, .inl cts9))] _ := (th_join (wr := [(ro 2, .inl (Y.2 0, 3, .inl siz)), (ro 5, .inl (Y.2 0, 12, .inl pro)), (ro 6, .inl (Y.2 0, 12, .inl bes)), (ro 7, .inl (Y.2 1, 12, .inl isr)), (ro 8, .inl (Y.2 0, 64, .inl key)), (ro 9, .inl (Y.2 0, 64, .inl lev)), (ro 10, .inl (Y.2 0, 4, .inl (upd kvi j1 (nI j2)))), (ro 11, .inl (Y.2 0, 4, .inl (upd ksz j1 (nI (S.2.1 j2))))), (ro 12, .inl (Y.2 0, 4, .inl krt)), (ro 13, .inl (Y.2 1, 4, .inl ala)), (ro 14, .inl (Y.2 0, 4, .inl fol)), (ro 15, .inl (Y.2 0, 4, .inl cts9))]) hP hD [2, 5, 6, 7, 8, 9, 10, 11, 12, 13, 14, 15] [0, 1, 3, 4] rfl rfl (by decide) hsm hPc).sub [12, 13, 0, 14, 15, 1, 2, 3, 4, 5, 6, 7, 8, 9, 10, 11] rfl
              have hD : va_D _ [(ro 0, .inr (6, [.int (nI 0), .ref (ro 1), .ref (ro 2), .int (nI S.1), .ref (ro 3), .ref (ro 4), .ref (ro 5), .int (nI S.2.2.2.1), .ref (ro 6), .ref (ro 7), .int stp, .int efr, .int esz, .int etr, .ref (ro 8), .ref (ro 9), .ref (ro 10), .ref (ro 11), .ref (ro 12), .ref (ro 13), .ref (ro 14), .ref (ro 15)])), (ro 1, .inl (Y.2 0, 300, .inl val)), (ro 2, .inl (Y.2 0, 3, .inl siz)), (ro 3, .inl (Y.2 0, 8, .inl z_25t)), (ro 4, .inl (Y.2 0, 8, .inl z_25s)), (ro 5, .inl (Y.2 0, 12, .inl pro)), (ro 6, .inl (Y.2 0, 12, .inl bes)), (ro 7, .inl (Y.2 1, 12, .inl isr)), (ro 8, .inl (Y.2 0, 64, .inl key)), (ro 9, .inl (Y.2 0, 64, .inl lev)), (ro 10, .inl (Y.2 0, 4, .inl (upd kvi j1 (nI j2)))), (ro 11, .inl (Y.2 0, 4, .inl (upd ksz j1 (nI (S.2.1 j2))))), (ro 12, .inl (Y.2 0, 4, .inl krt)), (ro 13, .inl (Y.2 1, 4, .inl ala)), (ro 14, .inl (Y.2 0, 4, .inl fol)), (ro 15, .inl (Y.2 0, 4, .inl cts9))] := th_Dsame hD rfl
              subst hrz
              refine th_ti (th_rt_c _ _ _ (fun k9 hk9 => (hf2 _ (by omega)).1)) ?_
              refine th_iast hx hb hK hP hD hS 12 rfl (j := j1) (by omega) (by omega) dX6_show_188 (fun H locs hP hD hS => ?_)
              have hP : va_P Y.1 vwCl [(ro 0, .inr (6, [.int (nI 0), .ref (ro 1), .ref (ro 2), .int (nI S.1), .ref (ro 3), .ref (ro 4), .ref (ro 5), .int (nI S.2.2.2.1), .ref (ro 6), .ref (ro 7), .int stp, .int efr, .int esz, .int etr, .ref (ro 8), .ref (ro 9), .ref (ro 10), .ref (ro 11), .ref (ro 12), .ref (ro 13), .ref (ro 14), .ref (ro 15)])), (ro 1, .inl (Y.2 0, 300, .inl val)), (ro 2, .inl (Y.2 0, 3, .inl siz)), (ro 3, .inl (Y.2 0, 8, .inl z_25t)), (ro 4, .inl (Y.2 0, 8, .inl z_25s)), (ro 5, .inl (Y.2 0, 12, .inl pro)), (ro 6, .inl (Y.2 0, 12, .inl bes)), (ro 7, .inl (Y.2 1, 12, .inl isr)), (ro 8, .inl (Y.2 0, 64, .inl key)), (ro 9, .inl (Y.2 0, 64, .inl lev)), (ro 10, .inl (Y.2 0, 4, .inl (upd kvi j1 (nI j2)))), (ro 11, .inl (Y.2 0, 4, .inl (upd ksz j1 (nI (S.2.1 j2))))), (ro 12, .inl (Y.2 0, 4, .inl (upd krt j1 (th_rt (S.2.2.1 j2) 0 (S.2.1 j2))))), (ro 13, .inl (Y.2 1, 4, .inl ala)), (ro 14, .inl (Y.2 0, 4, .inl fol)), (ro 15, .inl (Y.2 0, 4, .inl cts9))] _ := hP
              have hD : va_D _ [(ro 0, .inr (6, [.int (nI 0), .ref (ro 1), .ref (ro 2), .int (nI S.1), .ref (ro 3), .ref (ro 4), .ref (ro 5), .int (nI S.2.2.2.1), .ref (ro 6), .ref (ro 7), .int stp, .int efr, .int esz, .int etr, .ref (ro 8), .ref (ro 9), .ref (ro 10), .ref (ro 11), .ref (ro 12), .ref (ro 13), .ref (ro 14), .ref (ro 15)])), (ro 1, .inl (Y.2 0, 300, .inl val)), (ro 2, .inl (Y.2 0, 3, .inl siz)), (ro 3, .inl (Y.2 0, 8, .inl z_25t)), (ro 4, .inl (Y.2 0, 8, .inl z_25s)), (ro 5, .inl (Y.2 0, 12, .inl pro)), (ro 6, .inl (Y.2 0, 12, .inl bes)), (ro 7, .inl (Y.2 1, 12, .inl isr)), (ro 8, .inl (Y.2 0, 64, .inl key)), (ro 9, .inl (Y.2 0, 64, .inl lev)), (ro 10, .inl (Y.2 0, 4, .inl (upd kvi j1 (nI j2)))), (ro 11, .inl (Y.2 0, 4, .inl (upd ksz j1 (nI (S.2.1 j2))))), (ro 12, .inl (Y.2 0, 4, .inl (upd krt j1 (th_rt (S.2.2.1 j2) 0 (S.2.1 j2))))), (ro 13, .inl (Y.2 1, 4, .inl ala)), (ro 14, .inl (Y.2 0, 4, .inl fol)), (ro 15, .inl (Y.2 0, 4, .inl cts9))] := hD
              refine lv_iconst (v := nI 1) hx hb dX6_show_189 (by decide) ?_
              refine th_zret hx hb hr hlk hQ hS dX6_show_190 (Nat.le_of_ble_eq_true rfl) (Nat.le_of_ble_eq_true rfl) (by first | exact Or.inl rfl | exact Or.inr rfl | assumption | exact th_b01 _) ?_
              have ek9 : k9 = S.2.1 j2 := by omega
              rw [ek9] at hx9
              show th_ro Y ro (_) _ _
              unfold sp_show
              simp only [zj1, zj2]
              rw [th_ifT ⟨q1, q2⟩]
              rw [th_ifT q3, hlo]
              exact th_roT (rfl) (th_rgI hP (th_RvW hv j1b (Or.inr ⟨j2, S.2.1 j2, rfl, j2b, Nat.le_refl _, rfl⟩) (hv.2.2.2.2.2 j1 j1b).2.2.2 (fun j9 h9 => by cases h9; exact pk_us) pk_us pk_us (hv.2.2.2.2.2 j1 j1b).1.2.2.1 (hv.2.2.2.2.2 j1 j1b).1.2.2.2.1 hx9 (fun a9 h9 => ⟨pk_un h9, pk_un h9, pk_un h9, rfl, rfl, hco a9 h9⟩)))
              
            refine lv_aload_n hx hb dX6_show_111 rfl (lv_at hl 0 rfl) ?_
            refine va_get (D := Y.1) (ci := 6) (v := .ref (ro 15)) (C := RX6) (T := TX6) (N := 22) hx hb hts inX6 hown hK hP 0 rfl rfl 21 (by decide) (hts _ tw_3_176) (fun _ h9 => h9) rfl dX6_show_112 ?_
            refine lv_iload_n hx hb dX6_show_115 rfl (lv_at hl 1 rfl) ?_
            refine lv_dup2_11 hx hb dX6_show_116 rfl rfl ?_
            refine th_iald hx hb hK hP 15 rfl (j := j1) (by omega) (by omega) dX6_show_117 ?_
            refine lv_aload_n hx hb dX6_show_118 rfl (lv_at hl 0 rfl) ?_
            refine va_get (D := Y.1) (ci := 6) (v := .ref (ro 1)) (C := RX6) (T := TX6) (N := 22) hx hb hts inX6 hown hK hP 0 rfl rfl 1 (by decide) (hts _ tw_3_156) (fun _ h9 => h9) rfl dX6_show_119 ?_
            refine lv_bipush (v := nI 100) hx hb dX6_show_122 (by decide) ?_
            refine lv_iload_n hx hb dX6_show_124 rfl (lv_at hl 2 rfl) ?_
            refine lv_imul hx hb dX6_show_125 ?_
            refine th_ti (pk_mul _ _) ?_
            refine lv_iload hx hb dX6_show_126 (lv_at hl 5 rfl) ?_
            refine lv_iadd hx hb dX6_show_128 ?_
            refine th_ti (nI_add _ _) ?_
            refine th_iald hx hb hK hP 1 rfl (j := ((100 * j2) + k9)) (by omega) (by omega) dX6_show_129 ?_
            refine th_ti (show val ((100 * j2) + k9) = S.2.2.1 j2 k9 from (hf2 k9 (by omega)).1) ?_
            refine lv_aload_n hx hb dX6_show_130 rfl (lv_at hl 0 rfl) ?_
            refine va_get (D := Y.1) (ci := 6) (v := .ref (ro 14)) (C := RX6) (T := TX6) (N := 22) hx hb hts inX6 hown hK hP 0 rfl rfl 20 (by decide) (hts _ tw_3_175) (fun _ h9 => h9) rfl dX6_show_131 ?_
            refine lv_iload_n hx hb dX6_show_134 rfl (lv_at hl 1 rfl) ?_
            refine th_iald hx hb hK hP 14 rfl (j := j1) (by omega) (by omega) dX6_show_135 ?_
            refine th_ti (show fol j1 = S.2.2.2.2.2.2.2 j1 3 from (hv.2.2.2.2.2 j1 j1b).1.2.2.2.1) ?_
            refine lv_icmp_ne (tgt := 143) hx hb dX6_show_136 (by decide) (fun c_26 => ?_) (fun c_26 => ?_)
            · skip
              refine lv_iconst (v := nI 0) hx hb dX6_show_143 (by decide) ?_
              refine lv_iadd hx hb dX6_show_144 ?_
              refine th_iast hx hb hK hP hD hS 15 rfl (j := j1) (by omega) (by omega) dX6_show_145 (fun H locs hP hD hS => ?_)
              have hP : va_P Y.1 vwCl [(ro 0, .inr (6, [.int (nI 0), .ref (ro 1), .ref (ro 2), .int (nI S.1), .ref (ro 3), .ref (ro 4), .ref (ro 5), .int (nI S.2.2.2.1), .ref (ro 6), .ref (ro 7), .int stp, .int efr, .int esz, .int etr, .ref (ro 8), .ref (ro 9), .ref (ro 10), .ref (ro 11), .ref (ro 12), .ref (ro 13), .ref (ro 14), .ref (ro 15)])), (ro 1, .inl (Y.2 0, 300, .inl val)), (ro 2, .inl (Y.2 0, 3, .inl siz)), (ro 3, .inl (Y.2 0, 8, .inl z_16t)), (ro 4, .inl (Y.2 0, 8, .inl z_16s)), (ro 5, .inl (Y.2 0, 12, .inl pro)), (ro 6, .inl (Y.2 0, 12, .inl bes)), (ro 7, .inl (Y.2 1, 12, .inl isr)), (ro 8, .inl (Y.2 0, 64, .inl key)), (ro 9, .inl (Y.2 0, 64, .inl lev)), (ro 10, .inl (Y.2 0, 4, .inl kvi)), (ro 11, .inl (Y.2 0, 4, .inl ksz)), (ro 12, .inl (Y.2 0, 4, .inl krt)), (ro 13, .inl (Y.2 1, 4, .inl ala)), (ro 14, .inl (Y.2 0, 4, .inl fol)), (ro 15, .inl (Y.2 0, 4, .inl (upd cts9 j1 ((cts9 j1) + (nI 0)))))] _ := hP
              have hD : va_D _ [(ro 0, .inr (6, [.int (nI 0), .ref (ro 1), .ref (ro 2), .int (nI S.1), .ref (ro 3), .ref (ro 4), .ref (ro 5), .int (nI S.2.2.2.1), .ref (ro 6), .ref (ro 7), .int stp, .int efr, .int esz, .int etr, .ref (ro 8), .ref (ro 9), .ref (ro 10), .ref (ro 11), .ref (ro 12), .ref (ro 13), .ref (ro 14), .ref (ro 15)])), (ro 1, .inl (Y.2 0, 300, .inl val)), (ro 2, .inl (Y.2 0, 3, .inl siz)), (ro 3, .inl (Y.2 0, 8, .inl z_16t)), (ro 4, .inl (Y.2 0, 8, .inl z_16s)), (ro 5, .inl (Y.2 0, 12, .inl pro)), (ro 6, .inl (Y.2 0, 12, .inl bes)), (ro 7, .inl (Y.2 1, 12, .inl isr)), (ro 8, .inl (Y.2 0, 64, .inl key)), (ro 9, .inl (Y.2 0, 64, .inl lev)), (ro 10, .inl (Y.2 0, 4, .inl kvi)), (ro 11, .inl (Y.2 0, 4, .inl ksz)), (ro 12, .inl (Y.2 0, 4, .inl krt)), (ro 13, .inl (Y.2 1, 4, .inl ala)), (ro 14, .inl (Y.2 0, 4, .inl fol)), (ro 15, .inl (Y.2 0, 4, .inl (upd cts9 j1 ((cts9 j1) + (nI 0)))))] := hD
              refine lv_iinc (v := nI (k9 + 1)) (lv' := [(5, .int (nI (k9 + 1))), (0, .ref (ro 0)), (1, .int (nI j1)), (2, .int (nI j2)), (3, .int (nI kk9)), (4, .int (nI 1))]) hx hb dX6_show_146 hl (k := 5) rfl (nI_add _ 1) (by decide) rfl (fun ls hl => ?_)
              refine lv_goto (tgt := 100) hx hb dX6_show_149 (by decide) ?_
              exact ih_23 (k9 + 1) (upd cts9 j1 ((cts9 j1) + (nI 0))) _ _ _ (by omega) (by omega) (by omega) (pk_us.trans ((th_a0 _).trans ((th_cf_s hlo9 hx9).2 c_26))) (fun a9 h9 => (pk_un h9).trans (hco a9 h9)) hP hD hS (lv_sub hl [1, 2, 3, 4, 5, 0] rfl)
            refine lv_iconst (v := nI 1) hx hb dX6_show_139 (by decide) ?_
            refine lv_goto (tgt := 144) hx hb dX6_show_140 (by decide) ?_
            refine lv_iadd hx hb dX6_show_144 ?_
            refine th_iast hx hb hK hP hD hS 15 rfl (j := j1) (by omega) (by omega) dX6_show_145 (fun H locs hP hD hS => ?_)
            have hP : va_P Y.1 vwCl [(ro 0, .inr (6, [.int (nI 0), .ref (ro 1), .ref (ro 2), .int (nI S.1), .ref (ro 3), .ref (ro 4), .ref (ro 5), .int (nI S.2.2.2.1), .ref (ro 6), .ref (ro 7), .int stp, .int efr, .int esz, .int etr, .ref (ro 8), .ref (ro 9), .ref (ro 10), .ref (ro 11), .ref (ro 12), .ref (ro 13), .ref (ro 14), .ref (ro 15)])), (ro 1, .inl (Y.2 0, 300, .inl val)), (ro 2, .inl (Y.2 0, 3, .inl siz)), (ro 3, .inl (Y.2 0, 8, .inl z_16t)), (ro 4, .inl (Y.2 0, 8, .inl z_16s)), (ro 5, .inl (Y.2 0, 12, .inl pro)), (ro 6, .inl (Y.2 0, 12, .inl bes)), (ro 7, .inl (Y.2 1, 12, .inl isr)), (ro 8, .inl (Y.2 0, 64, .inl key)), (ro 9, .inl (Y.2 0, 64, .inl lev)), (ro 10, .inl (Y.2 0, 4, .inl kvi)), (ro 11, .inl (Y.2 0, 4, .inl ksz)), (ro 12, .inl (Y.2 0, 4, .inl krt)), (ro 13, .inl (Y.2 1, 4, .inl ala)), (ro 14, .inl (Y.2 0, 4, .inl fol)), (ro 15, .inl (Y.2 0, 4, .inl (upd cts9 j1 ((cts9 j1) + (nI 1)))))] _ := hP
            have hD : va_D _ [(ro 0, .inr (6, [.int (nI 0), .ref (ro 1), .ref (ro 2), .int (nI S.1), .ref (ro 3), .ref (ro 4), .ref (ro 5), .int (nI S.2.2.2.1), .ref (ro 6), .ref (ro 7), .int stp, .int efr, .int esz, .int etr, .ref (ro 8), .ref (ro 9), .ref (ro 10), .ref (ro 11), .ref (ro 12), .ref (ro 13), .ref (ro 14), .ref (ro 15)])), (ro 1, .inl (Y.2 0, 300, .inl val)), (ro 2, .inl (Y.2 0, 3, .inl siz)), (ro 3, .inl (Y.2 0, 8, .inl z_16t)), (ro 4, .inl (Y.2 0, 8, .inl z_16s)), (ro 5, .inl (Y.2 0, 12, .inl pro)), (ro 6, .inl (Y.2 0, 12, .inl bes)), (ro 7, .inl (Y.2 1, 12, .inl isr)), (ro 8, .inl (Y.2 0, 64, .inl key)), (ro 9, .inl (Y.2 0, 64, .inl lev)), (ro 10, .inl (Y.2 0, 4, .inl kvi)), (ro 11, .inl (Y.2 0, 4, .inl ksz)), (ro 12, .inl (Y.2 0, 4, .inl krt)), (ro 13, .inl (Y.2 1, 4, .inl ala)), (ro 14, .inl (Y.2 0, 4, .inl fol)), (ro 15, .inl (Y.2 0, 4, .inl (upd cts9 j1 ((cts9 j1) + (nI 1)))))] := hD
            refine lv_iinc (v := nI (k9 + 1)) (lv' := [(5, .int (nI (k9 + 1))), (0, .ref (ro 0)), (1, .int (nI j1)), (2, .int (nI j2)), (3, .int (nI kk9)), (4, .int (nI 1))]) hx hb dX6_show_146 hl (k := 5) rfl (nI_add _ 1) (by decide) rfl (fun ls hl => ?_)
            refine lv_goto (tgt := 100) hx hb dX6_show_149 (by decide) ?_
            exact ih_23 (k9 + 1) (upd cts9 j1 ((cts9 j1) + (nI 1))) _ _ _ (by omega) (by omega) (by omega) (pk_us.trans ((th_cf_s hlo9 hx9).1 c_26)) (fun a9 h9 => (pk_un h9).trans (hco a9 h9)) hP hD hS (lv_sub hl [1, 2, 3, 4, 5, 0] rfl)
        exact lp_21 ((S.2.1 j2 - (kk9)) + 1) (kk9) (cts) _ _ _ (Nat.lt_succ_self _) (by omega) (by omega) (by rw [Nat.sub_self]; exact (hv.2.2.2.2.2 j1 j1b).1.2.2.2.2) (fun _ _ => rfl) hP hD hS (lv_sub hl [3, 4, 5, 2, 1, 0] rfl)
    refine th_ti (th_bF q2) ?_
    refine th_zeq (tgt := 20) hx hb dX6_show_13 (by decide) (by omega) (fun c_27 => ?_) (fun c_27 => by exfalso; omega)
    refine lv_iconst (v := nI 1) hx hb dX6_show_20 (by decide) ?_
    refine th_callV hx hb hml hown hts ⟨hK, hN⟩ hl hS (hP 0 _ rfl) rfl (rest := []) (c_X6_goesWell l Y _ ro thr stp efr esz etr S.1 S.2.2.2.1 (hP.sub (ws' := [(ro 0, .inr (6, [.int thr, .ref (ro 1), .ref (ro 2), .int (nI S.1), .ref (ro 3), .ref (ro 4), .ref (ro 5), .int (nI S.2.2.2.1), .ref (ro 6), .ref (ro 7), .int stp, .int efr, .int esz, .int etr, .ref (ro 8), .ref (ro 9), .ref (ro 10), .ref (ro 11), .ref (ro 12), .ref (ro 13), .ref (ro 14), .ref (ro 15)]))]) [0] rfl) 1 (by omega)) ok_X6_goesWell tw_4_1 dX6_show_21 rfl rfl (Nat.le_of_ble_eq_true rfl) ⟨Nat.le_of_ble_eq_true rfl, Nat.le_of_ble_eq_true rfl⟩ ⟨Nat.le_of_ble_eq_true rfl, Nat.le_of_ble_eq_true rfl⟩ (th_subL [0] rfl) (th_ki (fun rz9 H locs hp hsm hS => ?_))
    obtain ⟨hrz, hPc⟩ := hp
    have hP : va_P Y.1 vwCl [(ro 0, .inr (6, [.int (nI 1), .ref (ro 1), .ref (ro 2), .int (nI S.1), .ref (ro 3), .ref (ro 4), .ref (ro 5), .int (nI S.2.2.2.1), .ref (ro 6), .ref (ro 7), .int stp, .int efr, .int esz, .int etr, .ref (ro 8), .ref (ro 9), .ref (ro 10), .ref (ro 11), .ref (ro 12), .ref (ro 13), .ref (ro 14), .ref (ro 15)])), (ro 1, .inl (Y.2 0, 300, .inl val)), (ro 2, .inl (Y.2 0, 3, .inl siz)), (ro 3, .inl (Y.2 0, 8, .inl tre)), (ro 4, .inl (Y.2 0, 8, .inl spa)), (ro 5, .inl (Y.2 0, 12, .inl pro)), (ro 6, .inl (Y.2 0, 12, .inl bes)), (ro 7, .inl (Y.2 1, 12, .inl isr)), (ro 8, .inl (Y.2 0, 64, .inl key)), (ro 9, .inl (Y.2 0, 64, .inl lev)), (ro 10, .inl (Y.2 0, 4, .inl kvi)), (ro 11, .inl (Y.2 0, 4, .inl ksz)), (ro 12, .inl (Y.2 0, 4, .inl krt)), (ro 13, .inl (Y.2 1, 4, .inl ala)), (ro 14, .inl (Y.2 0, 4, .inl fol)), (ro 15, .inl (Y.2 0, 4, .inl cts))] _ := (th_join (wr := [(ro 1, .inl (Y.2 0, 300, .inl val)), (ro 2, .inl (Y.2 0, 3, .inl siz)), (ro 3, .inl (Y.2 0, 8, .inl tre)), (ro 4, .inl (Y.2 0, 8, .inl spa)), (ro 5, .inl (Y.2 0, 12, .inl pro)), (ro 6, .inl (Y.2 0, 12, .inl bes)), (ro 7, .inl (Y.2 1, 12, .inl isr)), (ro 8, .inl (Y.2 0, 64, .inl key)), (ro 9, .inl (Y.2 0, 64, .inl lev)), (ro 10, .inl (Y.2 0, 4, .inl kvi)), (ro 11, .inl (Y.2 0, 4, .inl ksz)), (ro 12, .inl (Y.2 0, 4, .inl krt)), (ro 13, .inl (Y.2 1, 4, .inl ala)), (ro 14, .inl (Y.2 0, 4, .inl fol)), (ro 15, .inl (Y.2 0, 4, .inl cts))]) hP hD [1, 2, 3, 4, 5, 6, 7, 8, 9, 10, 11, 12, 13, 14, 15] [0] rfl rfl (by decide) hsm hPc).sub [15, 0, 1, 2, 3, 4, 5, 6, 7, 8, 9, 10, 11, 12, 13, 14] rfl
    have hD : va_D _ [(ro 0, .inr (6, [.int (nI 1), .ref (ro 1), .ref (ro 2), .int (nI S.1), .ref (ro 3), .ref (ro 4), .ref (ro 5), .int (nI S.2.2.2.1), .ref (ro 6), .ref (ro 7), .int stp, .int efr, .int esz, .int etr, .ref (ro 8), .ref (ro 9), .ref (ro 10), .ref (ro 11), .ref (ro 12), .ref (ro 13), .ref (ro 14), .ref (ro 15)])), (ro 1, .inl (Y.2 0, 300, .inl val)), (ro 2, .inl (Y.2 0, 3, .inl siz)), (ro 3, .inl (Y.2 0, 8, .inl tre)), (ro 4, .inl (Y.2 0, 8, .inl spa)), (ro 5, .inl (Y.2 0, 12, .inl pro)), (ro 6, .inl (Y.2 0, 12, .inl bes)), (ro 7, .inl (Y.2 1, 12, .inl isr)), (ro 8, .inl (Y.2 0, 64, .inl key)), (ro 9, .inl (Y.2 0, 64, .inl lev)), (ro 10, .inl (Y.2 0, 4, .inl kvi)), (ro 11, .inl (Y.2 0, 4, .inl ksz)), (ro 12, .inl (Y.2 0, 4, .inl krt)), (ro 13, .inl (Y.2 1, 4, .inl ala)), (ro 14, .inl (Y.2 0, 4, .inl fol)), (ro 15, .inl (Y.2 0, 4, .inl cts))] := th_Dsame hD rfl
    obtain rfl : rz9 = nI 0 := by rw [hrz]; rfl
    refine th_zne (tgt := 29) hx hb dX6_show_24 (by decide) (by omega) (fun c_28 => by exfalso; omega) (fun c_28 => ?_)
    refine lv_iconst (v := nI 0) hx hb dX6_show_27 (by decide) ?_
    refine th_zret hx hb hr hlk hQ hS dX6_show_28 (Nat.le_of_ble_eq_true rfl) (Nat.le_of_ble_eq_true rfl) (by first | exact Or.inl rfl | exact Or.inr rfl | assumption | exact th_b01 _) ?_
    show th_ro Y ro (_) _ _
    unfold sp_show
    simp only [zj1]
    rw [th_ifF (fun z9 => q2 z9.2)]
    exact th_roF (by decide) (th_rgI hP hv)
    
  refine th_ti (th_bF q1) ?_
  refine th_zeq (tgt := 20) hx hb dX6_show_5 (by decide) (by omega) (fun c_29 => ?_) (fun c_29 => by exfalso; omega)
  refine lv_iconst (v := nI 1) hx hb dX6_show_20 (by decide) ?_
  refine th_callV hx hb hml hown hts ⟨hK, hN⟩ hl hS (hP 0 _ rfl) rfl (rest := []) (c_X6_goesWell l Y _ ro thr stp efr esz etr S.1 S.2.2.2.1 (hP.sub (ws' := [(ro 0, .inr (6, [.int thr, .ref (ro 1), .ref (ro 2), .int (nI S.1), .ref (ro 3), .ref (ro 4), .ref (ro 5), .int (nI S.2.2.2.1), .ref (ro 6), .ref (ro 7), .int stp, .int efr, .int esz, .int etr, .ref (ro 8), .ref (ro 9), .ref (ro 10), .ref (ro 11), .ref (ro 12), .ref (ro 13), .ref (ro 14), .ref (ro 15)]))]) [0] rfl) 1 (by omega)) ok_X6_goesWell tw_4_1 dX6_show_21 rfl rfl (Nat.le_of_ble_eq_true rfl) ⟨Nat.le_of_ble_eq_true rfl, Nat.le_of_ble_eq_true rfl⟩ ⟨Nat.le_of_ble_eq_true rfl, Nat.le_of_ble_eq_true rfl⟩ (th_subL [0] rfl) (th_ki (fun rz9 H locs hp hsm hS => ?_))
  obtain ⟨hrz, hPc⟩ := hp
  have hP : va_P Y.1 vwCl [(ro 0, .inr (6, [.int (nI 1), .ref (ro 1), .ref (ro 2), .int (nI S.1), .ref (ro 3), .ref (ro 4), .ref (ro 5), .int (nI S.2.2.2.1), .ref (ro 6), .ref (ro 7), .int stp, .int efr, .int esz, .int etr, .ref (ro 8), .ref (ro 9), .ref (ro 10), .ref (ro 11), .ref (ro 12), .ref (ro 13), .ref (ro 14), .ref (ro 15)])), (ro 1, .inl (Y.2 0, 300, .inl val)), (ro 2, .inl (Y.2 0, 3, .inl siz)), (ro 3, .inl (Y.2 0, 8, .inl tre)), (ro 4, .inl (Y.2 0, 8, .inl spa)), (ro 5, .inl (Y.2 0, 12, .inl pro)), (ro 6, .inl (Y.2 0, 12, .inl bes)), (ro 7, .inl (Y.2 1, 12, .inl isr)), (ro 8, .inl (Y.2 0, 64, .inl key)), (ro 9, .inl (Y.2 0, 64, .inl lev)), (ro 10, .inl (Y.2 0, 4, .inl kvi)), (ro 11, .inl (Y.2 0, 4, .inl ksz)), (ro 12, .inl (Y.2 0, 4, .inl krt)), (ro 13, .inl (Y.2 1, 4, .inl ala)), (ro 14, .inl (Y.2 0, 4, .inl fol)), (ro 15, .inl (Y.2 0, 4, .inl cts))] _ := (th_join (wr := [(ro 1, .inl (Y.2 0, 300, .inl val)), (ro 2, .inl (Y.2 0, 3, .inl siz)), (ro 3, .inl (Y.2 0, 8, .inl tre)), (ro 4, .inl (Y.2 0, 8, .inl spa)), (ro 5, .inl (Y.2 0, 12, .inl pro)), (ro 6, .inl (Y.2 0, 12, .inl bes)), (ro 7, .inl (Y.2 1, 12, .inl isr)), (ro 8, .inl (Y.2 0, 64, .inl key)), (ro 9, .inl (Y.2 0, 64, .inl lev)), (ro 10, .inl (Y.2 0, 4, .inl kvi)), (ro 11, .inl (Y.2 0, 4, .inl ksz)), (ro 12, .inl (Y.2 0, 4, .inl krt)), (ro 13, .inl (Y.2 1, 4, .inl ala)), (ro 14, .inl (Y.2 0, 4, .inl fol)), (ro 15, .inl (Y.2 0, 4, .inl cts))]) hP hD [1, 2, 3, 4, 5, 6, 7, 8, 9, 10, 11, 12, 13, 14, 15] [0] rfl rfl (by decide) hsm hPc).sub [15, 0, 1, 2, 3, 4, 5, 6, 7, 8, 9, 10, 11, 12, 13, 14] rfl
  have hD : va_D _ [(ro 0, .inr (6, [.int (nI 1), .ref (ro 1), .ref (ro 2), .int (nI S.1), .ref (ro 3), .ref (ro 4), .ref (ro 5), .int (nI S.2.2.2.1), .ref (ro 6), .ref (ro 7), .int stp, .int efr, .int esz, .int etr, .ref (ro 8), .ref (ro 9), .ref (ro 10), .ref (ro 11), .ref (ro 12), .ref (ro 13), .ref (ro 14), .ref (ro 15)])), (ro 1, .inl (Y.2 0, 300, .inl val)), (ro 2, .inl (Y.2 0, 3, .inl siz)), (ro 3, .inl (Y.2 0, 8, .inl tre)), (ro 4, .inl (Y.2 0, 8, .inl spa)), (ro 5, .inl (Y.2 0, 12, .inl pro)), (ro 6, .inl (Y.2 0, 12, .inl bes)), (ro 7, .inl (Y.2 1, 12, .inl isr)), (ro 8, .inl (Y.2 0, 64, .inl key)), (ro 9, .inl (Y.2 0, 64, .inl lev)), (ro 10, .inl (Y.2 0, 4, .inl kvi)), (ro 11, .inl (Y.2 0, 4, .inl ksz)), (ro 12, .inl (Y.2 0, 4, .inl krt)), (ro 13, .inl (Y.2 1, 4, .inl ala)), (ro 14, .inl (Y.2 0, 4, .inl fol)), (ro 15, .inl (Y.2 0, 4, .inl cts))] := th_Dsame hD rfl
  obtain rfl : rz9 = nI 0 := by rw [hrz]; rfl
  refine th_zne (tgt := 29) hx hb dX6_show_24 (by decide) (by omega) (fun c_30 => by exfalso; omega) (fun c_30 => ?_)
  refine lv_iconst (v := nI 0) hx hb dX6_show_27 (by decide) ?_
  refine th_zret hx hb hr hlk hQ hS dX6_show_28 (Nat.le_of_ble_eq_true rfl) (Nat.le_of_ble_eq_true rfl) (by first | exact Or.inl rfl | exact Or.inr rfl | assumption | exact th_b01 _) ?_
  show th_ro Y ro (_) _ _
  unfold sp_show
  rw [th_ifF (fun z9 => q1 z9.1)]
  exact th_roF (by decide) (th_rgI hP hv)
  

set_option maxRecDepth 100000 in
set_option maxHeartbeats 800000 in
theorem c_X6_gossip (l : Launch) (Y : th_Y) (H0 : Heap) (ro : Nat → Nat) (hJ : th_gJ ro 16) (S : th_S) (thr stp efr esz etr : Int32) (val siz tre spa pro bes isr key lev kvi ksz krt ala fol cts : Nat → Int32) (hP : va_P Y.1 vwCl [(ro 0, .inr (6, [.int thr, .ref (ro 1), .ref (ro 2), .int (nI S.1), .ref (ro 3), .ref (ro 4), .ref (ro 5), .int (nI S.2.2.2.1), .ref (ro 6), .ref (ro 7), .int stp, .int efr, .int esz, .int etr, .ref (ro 8), .ref (ro 9), .ref (ro 10), .ref (ro 11), .ref (ro 12), .ref (ro 13), .ref (ro 14), .ref (ro 15)])), (ro 1, .inl (Y.2 0, 300, .inl val)), (ro 2, .inl (Y.2 0, 3, .inl siz)), (ro 3, .inl (Y.2 0, 8, .inl tre)), (ro 4, .inl (Y.2 0, 8, .inl spa)), (ro 5, .inl (Y.2 0, 12, .inl pro)), (ro 6, .inl (Y.2 0, 12, .inl bes)), (ro 7, .inl (Y.2 1, 12, .inl isr)), (ro 8, .inl (Y.2 0, 64, .inl key)), (ro 9, .inl (Y.2 0, 64, .inl lev)), (ro 10, .inl (Y.2 0, 4, .inl kvi)), (ro 11, .inl (Y.2 0, 4, .inl ksz)), (ro 12, .inl (Y.2 0, 4, .inl krt)), (ro 13, .inl (Y.2 1, 4, .inl ala)), (ro 14, .inl (Y.2 0, 4, .inl fol)), (ro 15, .inl (Y.2 0, 4, .inl cts))] H0) (hv : th_RIv S val siz pro key kvi ksz krt ala fol cts) (x1 x2 : Int32) : th_M l Y yX6_gossip cX6_gossip 6 (some .boolean) (th_rm 6 0 0) [.ref (ro 0), .int x1, .int x2] H0 (fun z => z ∈ [ro 0, ro 1, ro 2, ro 3, ro 4, ro 5, ro 6, ro 7, ro 8, ro 9, ro 10, ro 11, ro 12, ro 13, ro 14, ro 15]) (th_ro Y ro (sp_gossip S x1 x2)) := by
  refine th_M.intro (by decide) (Nat.le_of_ble_eq_true rfl) ?_
  intro p e s m args below meth c ls Q hQ C hKN hl hS
  obtain ⟨hx, hb, hr, hml, hown, hts, hlk, hnm⟩ := C
  obtain ⟨hK, hN⟩ := hKN
  have hown : s.vm.findClass RX6 = some m.cls := hown
  have hl : lv_has ls 6 [(0, .ref (ro 0)), (1, .int x1), (2, .int x2)] := hl
  have hD : va_D (fun z => z ∈ [ro 0, ro 1, ro 2, ro 3, ro 4, ro 5, ro 6, ro 7, ro 8, ro 9, ro 10, ro 11, ro 12, ro 13, ro 14, ro 15]) [(ro 0, .inr (6, [.int thr, .ref (ro 1), .ref (ro 2), .int (nI S.1), .ref (ro 3), .ref (ro 4), .ref (ro 5), .int (nI S.2.2.2.1), .ref (ro 6), .ref (ro 7), .int stp, .int efr, .int esz, .int etr, .ref (ro 8), .ref (ro 9), .ref (ro 10), .ref (ro 11), .ref (ro 12), .ref (ro 13), .ref (ro 14), .ref (ro 15)])), (ro 1, .inl (Y.2 0, 300, .inl val)), (ro 2, .inl (Y.2 0, 3, .inl siz)), (ro 3, .inl (Y.2 0, 8, .inl tre)), (ro 4, .inl (Y.2 0, 8, .inl spa)), (ro 5, .inl (Y.2 0, 12, .inl pro)), (ro 6, .inl (Y.2 0, 12, .inl bes)), (ro 7, .inl (Y.2 1, 12, .inl isr)), (ro 8, .inl (Y.2 0, 64, .inl key)), (ro 9, .inl (Y.2 0, 64, .inl lev)), (ro 10, .inl (Y.2 0, 4, .inl kvi)), (ro 11, .inl (Y.2 0, 4, .inl ksz)), (ro 12, .inl (Y.2 0, 4, .inl krt)), (ro 13, .inl (Y.2 1, 4, .inl ala)), (ro 14, .inl (Y.2 0, 4, .inl fol)), (ro 15, .inl (Y.2 0, 4, .inl cts))] := th_mem (th_gD hJ [0, 1, 2, 3, 4, 5, 6, 7, 8, 9, 10, 11, 12, 13, 14, 15] (fun k9 hk9 => by simp only [List.mem_cons, List.not_mem_nil, or_false] at hk9; omega) th_nd16 rfl)
  have hv1 := hv.1
  have hv12 := hv.2.2.1
  refine lv_aload_n hx hb dX6_gossip_0 rfl (lv_at hl 0 rfl) ?_
  refine lv_iload_n hx hb dX6_gossip_1 rfl (lv_at hl 1 rfl) ?_
  refine th_callS hx hb hml hown hts ⟨hK, hN⟩ hl hS (rest := [.ref (ro 0)]) (c_X6_isWatcher l Y _ x1) ok_X6_isWatcher tw_4_147 dX6_gossip_2 rfl rfl (Nat.le_of_ble_eq_true rfl) ⟨Nat.le_of_ble_eq_true rfl, Nat.le_of_ble_eq_true rfl⟩ ⟨Nat.le_of_ble_eq_true rfl, Nat.le_of_ble_eq_true rfl⟩ (fun _ h => h.elim) (th_kpi (fun locs hS => ?_))
  by_cases q1 : th_ir x1 0 4
  · refine th_ti (th_bT q1) ?_
    have uq9 := q1
    obtain ⟨j1, j1a, j1b, ux9⟩ := uq9
    subst ux9
    have zj1 : th_ix (nI j1) = j1 := th_ixN (by omega)
    refine th_zeq (tgt := 19) hx hb dX6_gossip_5 (by decide) (by omega) (fun c_1 => by exfalso; omega) (fun c_1 => ?_)
    refine lv_iload_n hx hb dX6_gossip_8 rfl (lv_at hl 2 rfl) ?_
    refine th_callS hx hb hml hown hts ⟨hK, hN⟩ hl hS (rest := [.ref (ro 0)]) (c_X6_isWatcher l Y _ x2) ok_X6_isWatcher tw_4_147 dX6_gossip_9 rfl rfl (Nat.le_of_ble_eq_true rfl) ⟨Nat.le_of_ble_eq_true rfl, Nat.le_of_ble_eq_true rfl⟩ ⟨Nat.le_of_ble_eq_true rfl, Nat.le_of_ble_eq_true rfl⟩ (fun _ h => h.elim) (th_kpi (fun locs hS => ?_))
    by_cases q2 : th_ir x2 0 4
    · refine th_ti (th_bT q2) ?_
      have uq9 := q2
      obtain ⟨j2, j2a, j2b, ux9⟩ := uq9
      subst ux9
      have zj2 : th_ix (nI j2) = j2 := th_ixN (by omega)
      refine th_zeq (tgt := 19) hx hb dX6_gossip_12 (by decide) (by omega) (fun c_2 => by exfalso; omega) (fun c_2 => ?_)
      refine lv_iconst (v := nI 0) hx hb dX6_gossip_15 (by decide) ?_
      refine lv_goto (tgt := 20) hx hb dX6_gossip_16 (by decide) ?_
      refine th_callV hx hb hml hown hts ⟨hK, hN⟩ hl hS (hP 0 _ rfl) rfl (rest := []) (c_X6_goesWell l Y _ ro thr stp efr esz etr S.1 S.2.2.2.1 (hP.sub (ws' := [(ro 0, .inr (6, [.int thr, .ref (ro 1), .ref (ro 2), .int (nI S.1), .ref (ro 3), .ref (ro 4), .ref (ro 5), .int (nI S.2.2.2.1), .ref (ro 6), .ref (ro 7), .int stp, .int efr, .int esz, .int etr, .ref (ro 8), .ref (ro 9), .ref (ro 10), .ref (ro 11), .ref (ro 12), .ref (ro 13), .ref (ro 14), .ref (ro 15)]))]) [0] rfl) 0 (by omega)) ok_X6_goesWell tw_4_1 dX6_gossip_20 rfl rfl (Nat.le_of_ble_eq_true rfl) ⟨Nat.le_of_ble_eq_true rfl, Nat.le_of_ble_eq_true rfl⟩ ⟨Nat.le_of_ble_eq_true rfl, Nat.le_of_ble_eq_true rfl⟩ (th_subL [0] rfl) (th_ki (fun rz9 H locs hp hsm hS => ?_))
      obtain ⟨hrz, hPc⟩ := hp
      have hP : va_P Y.1 vwCl [(ro 0, .inr (6, [.int (nI 0), .ref (ro 1), .ref (ro 2), .int (nI S.1), .ref (ro 3), .ref (ro 4), .ref (ro 5), .int (nI S.2.2.2.1), .ref (ro 6), .ref (ro 7), .int stp, .int efr, .int esz, .int etr, .ref (ro 8), .ref (ro 9), .ref (ro 10), .ref (ro 11), .ref (ro 12), .ref (ro 13), .ref (ro 14), .ref (ro 15)])), (ro 1, .inl (Y.2 0, 300, .inl val)), (ro 2, .inl (Y.2 0, 3, .inl siz)), (ro 3, .inl (Y.2 0, 8, .inl tre)), (ro 4, .inl (Y.2 0, 8, .inl spa)), (ro 5, .inl (Y.2 0, 12, .inl pro)), (ro 6, .inl (Y.2 0, 12, .inl bes)), (ro 7, .inl (Y.2 1, 12, .inl isr)), (ro 8, .inl (Y.2 0, 64, .inl key)), (ro 9, .inl (Y.2 0, 64, .inl lev)), (ro 10, .inl (Y.2 0, 4, .inl kvi)), (ro 11, .inl (Y.2 0, 4, .inl ksz)), (ro 12, .inl (Y.2 0, 4, .inl krt)), (ro 13, .inl (Y.2 1, 4, .inl ala)), (ro 14, .inl (Y.2 0, 4, .inl fol)), (ro 15, .inl (Y.2 0, 4, .inl cts))] _ := (th_join (wr := [(ro 1, .inl (Y.2 0, 300, .inl val)), (ro 2, .inl (Y.2 0, 3, .inl siz)), (ro 3, .inl (Y.2 0, 8, .inl tre)), (ro 4, .inl (Y.2 0, 8, .inl spa)), (ro 5, .inl (Y.2 0, 12, .inl pro)), (ro 6, .inl (Y.2 0, 12, .inl bes)), (ro 7, .inl (Y.2 1, 12, .inl isr)), (ro 8, .inl (Y.2 0, 64, .inl key)), (ro 9, .inl (Y.2 0, 64, .inl lev)), (ro 10, .inl (Y.2 0, 4, .inl kvi)), (ro 11, .inl (Y.2 0, 4, .inl ksz)), (ro 12, .inl (Y.2 0, 4, .inl krt)), (ro 13, .inl (Y.2 1, 4, .inl ala)), (ro 14, .inl (Y.2 0, 4, .inl fol)), (ro 15, .inl (Y.2 0, 4, .inl cts))]) hP hD [1, 2, 3, 4, 5, 6, 7, 8, 9, 10, 11, 12, 13, 14, 15] [0] rfl rfl (by decide) hsm hPc).sub [15, 0, 1, 2, 3, 4, 5, 6, 7, 8, 9, 10, 11, 12, 13, 14] rfl
      have hD : va_D _ [(ro 0, .inr (6, [.int (nI 0), .ref (ro 1), .ref (ro 2), .int (nI S.1), .ref (ro 3), .ref (ro 4), .ref (ro 5), .int (nI S.2.2.2.1), .ref (ro 6), .ref (ro 7), .int stp, .int efr, .int esz, .int etr, .ref (ro 8), .ref (ro 9), .ref (ro 10), .ref (ro 11), .ref (ro 12), .ref (ro 13), .ref (ro 14), .ref (ro 15)])), (ro 1, .inl (Y.2 0, 300, .inl val)), (ro 2, .inl (Y.2 0, 3, .inl siz)), (ro 3, .inl (Y.2 0, 8, .inl tre)), (ro 4, .inl (Y.2 0, 8, .inl spa)), (ro 5, .inl (Y.2 0, 12, .inl pro)), (ro 6, .inl (Y.2 0, 12, .inl bes)), (ro 7, .inl (Y.2 1, 12, .inl isr)), (ro 8, .inl (Y.2 0, 64, .inl key)), (ro 9, .inl (Y.2 0, 64, .inl lev)), (ro 10, .inl (Y.2 0, 4, .inl kvi)), (ro 11, .inl (Y.2 0, 4, .inl ksz)), (ro 12, .inl (Y.2 0, 4, .inl krt)), (ro 13, .inl (Y.2 1, 4, .inl ala)), (ro 14, .inl (Y.2 0, 4, .inl fol)), (ro 15, .inl (Y.2 0, 4, .inl cts))] := th_Dsame hD rfl
      obtain rfl : rz9 = nI 1 := by rw [hrz]; rfl
      refine th_zne (tgt := 28) hx hb dX6_gossip_23 (by decide) (by omega) (fun c_3 => ?_) (fun c_3 => by exfalso; omega)
      refine lv_iload_n hx hb dX6_gossip_28 rfl (lv_at hl 1 rfl) ?_
      refine lv_iload_n hx hb dX6_gossip_29 rfl (lv_at hl 2 rfl) ?_
      refine th_ieq (tgt := 53) hx hb dX6_gossip_30 (by decide) (by omega) (by omega) (fun c_4 => ?_) (fun c_4 => ?_)
      · skip
        have q3 : th_ft S j1 j2 := Or.inl c_4
        refine lv_iconst (v := nI 1) hx hb dX6_gossip_53 (by decide) ?_
        refine th_zret hx hb hr hlk hQ hS dX6_gossip_54 (Nat.le_of_ble_eq_true rfl) (Nat.le_of_ble_eq_true rfl) (by first | exact Or.inl rfl | exact Or.inr rfl | assumption | exact th_b01 _) ?_
        show th_ro Y ro (_) _ _
        unfold sp_gossip
        simp only [zj1, zj2]
        rw [th_ifT ⟨q1, q2⟩]
        rw [th_ifT q3]
        exact th_roT (rfl) (th_rgI hP (hv))
        
      refine lv_aload_n hx hb dX6_gossip_33 rfl (lv_at hl 0 rfl) ?_
      refine va_get (D := Y.1) (ci := 6) (v := .ref (ro 11)) (C := RX6) (T := TX6) (N := 22) hx hb hts inX6 hown hK hP 0 rfl rfl 17 (by decide) (hts _ tw_3_172) (fun _ h9 => h9) rfl dX6_gossip_34 ?_
      refine lv_iload_n hx hb dX6_gossip_37 rfl (lv_at hl 1 rfl) ?_
      refine th_iald hx hb hK hP 11 rfl (j := j1) (by omega) (by omega) dX6_gossip_38 ?_
      rcases (hv.2.2.2.2.2 j1 j1b).2.2.1 with ⟨hKs, hW0⟩ | ⟨jk, kk9, hKs, hjk, hkk, hW0⟩
      · skip
        refine th_ti (show ksz j1 = -1 from (hv.2.2.2.2.2 j1 j1b).1.1.trans hW0) ?_
        refine lv_iconst (v := -1) hx hb dX6_gossip_39 (by decide) ?_
        refine lv_icmp_eq (tgt := 53) hx hb dX6_gossip_40 (by decide) (fun c_5 => ?_) (fun c_5 => by exfalso; exact c_5 rfl)
        have q3 : th_ft S j1 j2 := Or.inr (fun i9 j9 hi9 hj9 => by rw [hKs] at hi9; cases hi9)
        refine lv_iconst (v := nI 1) hx hb dX6_gossip_53 (by decide) ?_
        refine th_zret hx hb hr hlk hQ hS dX6_gossip_54 (Nat.le_of_ble_eq_true rfl) (Nat.le_of_ble_eq_true rfl) (by first | exact Or.inl rfl | exact Or.inr rfl | assumption | exact th_b01 _) ?_
        show th_ro Y ro (_) _ _
        unfold sp_gossip
        simp only [zj1, zj2]
        rw [th_ifT ⟨q1, q2⟩]
        rw [th_ifT q3]
        exact th_roT (rfl) (th_rgI hP (hv))
        
      · skip
        obtain ⟨hnjk, hsjk, hfjk⟩ := hv.2.1 jk hjk
        refine th_ti (show ksz j1 = nI kk9 from (hv.2.2.2.2.2 j1 j1b).1.1.trans hW0) ?_
        refine lv_iconst (v := -1) hx hb dX6_gossip_39 (by decide) ?_
        refine lv_icmp_eq (tgt := 53) hx hb dX6_gossip_40 (by decide) (fun c_6 => by exfalso; exact th_nmA (by omega) c_6) (fun c_6 => ?_)
        refine lv_aload_n hx hb dX6_gossip_43 rfl (lv_at hl 0 rfl) ?_
        refine va_get (D := Y.1) (ci := 6) (v := .ref (ro 11)) (C := RX6) (T := TX6) (N := 22) hx hb hts inX6 hown hK hP 0 rfl rfl 17 (by decide) (hts _ tw_3_172) (fun _ h9 => h9) rfl dX6_gossip_44 ?_
        refine lv_iload_n hx hb dX6_gossip_47 rfl (lv_at hl 2 rfl) ?_
        refine th_iald hx hb hK hP 11 rfl (j := j2) (by omega) (by omega) dX6_gossip_48 ?_
        rcases (hv.2.2.2.2.2 j2 j2b).2.2.1 with ⟨hKm, hWm⟩ | ⟨jm, km9, hKm, hjm, hkm, hWm⟩
        · skip
          refine th_ti (show ksz j2 = -1 from (hv.2.2.2.2.2 j2 j2b).1.1.trans hWm) ?_
          refine lv_iconst (v := -1) hx hb dX6_gossip_49 (by decide) ?_
          refine lv_icmp_ne (tgt := 55) hx hb dX6_gossip_50 (by decide) (fun c_7 => by exfalso; exact c_7 rfl) (fun c_7 => ?_)
          have q3 : th_ft S j1 j2 := Or.inr (fun i9 j9 hi9 hj9 => by rw [hKm] at hj9; cases hj9)
          refine lv_iconst (v := nI 1) hx hb dX6_gossip_53 (by decide) ?_
          refine th_zret hx hb hr hlk hQ hS dX6_gossip_54 (Nat.le_of_ble_eq_true rfl) (Nat.le_of_ble_eq_true rfl) (by first | exact Or.inl rfl | exact Or.inr rfl | assumption | exact th_b01 _) ?_
          show th_ro Y ro (_) _ _
          unfold sp_gossip
          simp only [zj1, zj2]
          rw [th_ifT ⟨q1, q2⟩]
          rw [th_ifT q3]
          exact th_roT (rfl) (th_rgI hP (hv))
          
        · skip
          obtain ⟨hnjm, hsjm, hfjm⟩ := hv.2.1 jm hjm
          refine th_ti (show ksz j2 = nI km9 from (hv.2.2.2.2.2 j2 j2b).1.1.trans hWm) ?_
          refine lv_iconst (v := -1) hx hb dX6_gossip_49 (by decide) ?_
          refine lv_icmp_ne (tgt := 55) hx hb dX6_gossip_50 (by decide) (fun c_8 => ?_) (fun c_8 => by exfalso; exact th_nmA (by omega) c_8)
          refine lv_aload_n hx hb dX6_gossip_55 rfl (lv_at hl 0 rfl) ?_
          refine va_get (D := Y.1) (ci := 6) (v := .ref (ro 11)) (C := RX6) (T := TX6) (N := 22) hx hb hts inX6 hown hK hP 0 rfl rfl 17 (by decide) (hts _ tw_3_172) (fun _ h9 => h9) rfl dX6_gossip_56 ?_
          refine lv_iload_n hx hb dX6_gossip_59 rfl (lv_at hl 2 rfl) ?_
          refine th_iald hx hb hK hP 11 rfl (j := j2) (by omega) (by omega) dX6_gossip_60 ?_
          refine th_ti (show ksz j2 = nI km9 from (hv.2.2.2.2.2 j2 j2b).1.1.trans hWm) ?_
          refine lv_aload_n hx hb dX6_gossip_61 rfl (lv_at hl 0 rfl) ?_
          refine va_get (D := Y.1) (ci := 6) (v := .ref (ro 11)) (C := RX6) (T := TX6) (N := 22) hx hb hts inX6 hown hK hP 0 rfl rfl 17 (by decide) (hts _ tw_3_172) (fun _ h9 => h9) rfl dX6_gossip_62 ?_
          refine lv_iload_n hx hb dX6_gossip_65 rfl (lv_at hl 1 rfl) ?_
          refine th_iald hx hb hK hP 11 rfl (j := j1) (by omega) (by omega) dX6_gossip_66 ?_
          refine th_ti (show ksz j1 = nI kk9 from (hv.2.2.2.2.2 j1 j1b).1.1.trans hW0) ?_
          refine th_ile (tgt := 74) hx hb dX6_gossip_67 (by decide) (by omega) (by omega) (fun c_9 => ?_) (fun c_9 => ?_)
          · skip
            refine lv_iload_n hx hb dX6_gossip_74 rfl (lv_at hl 1 rfl) ?_
            refine lv_istore_n (lv' := [(3, .int (nI j1)), (0, .ref (ro 0)), (1, .int (nI j1)), (2, .int (nI j2))]) hx hb dX6_gossip_75 rfl hl (by decide) rfl (fun ls hl => ?_)
            refine lv_iload_n hx hb dX6_gossip_76 rfl (lv_at hl 0 rfl) ?_
            refine lv_iload_n hx hb dX6_gossip_77 rfl (lv_at hl 2 rfl) ?_
            refine th_ine (tgt := 85) hx hb dX6_gossip_78 (by decide) (by omega) (by omega) (fun c_10 => by exfalso; omega) (fun c_10 => ?_)
            refine lv_iload_n hx hb dX6_gossip_81 rfl (lv_at hl 3 rfl) ?_
            refine lv_goto (tgt := 86) hx hb dX6_gossip_82 (by decide) ?_
            refine lv_istore (lv' := [(4, .int (nI j2)), (3, .int (nI j1)), (0, .ref (ro 0)), (1, .int (nI j1)), (2, .int (nI j2))]) hx hb dX6_gossip_86 hl (by decide) rfl (fun ls hl => ?_)
            refine lv_aload_n hx hb dX6_gossip_88 rfl (lv_at hl 2 rfl) ?_
            refine lv_aload_n hx hb dX6_gossip_89 rfl (lv_at hl 2 rfl) ?_
            refine va_get (D := Y.1) (ci := 6) (v := .ref (ro 10)) (C := RX6) (T := TX6) (N := 22) hx hb hts inX6 hown hK hP 0 rfl rfl 16 (by decide) (hts _ tw_3_171) (fun _ h9 => h9) rfl dX6_gossip_90 ?_
            refine lv_iload_n hx hb dX6_gossip_93 rfl (lv_at hl 1 rfl) ?_
            refine th_iald hx hb hK hP 10 rfl (j := j1) (by omega) (by omega) dX6_gossip_94 ?_
            refine th_ti (show kvi j1 = nI jk from (hv.2.2.2.2.2 j1 j1b).2.1 jk hKs) ?_
            refine lv_iconst (v := nI 0) hx hb dX6_gossip_95 (by decide) ?_
            refine lv_aload_n hx hb dX6_gossip_96 rfl (lv_at hl 2 rfl) ?_
            refine va_get (D := Y.1) (ci := 6) (v := .ref (ro 11)) (C := RX6) (T := TX6) (N := 22) hx hb hts inX6 hown hK hP 0 rfl rfl 17 (by decide) (hts _ tw_3_172) (fun _ h9 => h9) rfl dX6_gossip_97 ?_
            refine lv_iload hx hb dX6_gossip_100 (lv_at hl 0 rfl) ?_
            refine th_iald hx hb hK hP 11 rfl (j := j2) (by omega) (by omega) dX6_gossip_102 ?_
            refine th_ti (show ksz j2 = nI km9 from (hv.2.2.2.2.2 j2 j2b).1.1.trans hWm) ?_
            refine th_callV hx hb hml hown hts ⟨hK, hN⟩ hl hS (hP 0 _ rfl) rfl (rest := []) (c_X6_rootOf l Y _ ro (nI 0) stp efr esz etr S.1 S.2.2.2.1 val tre spa (hP.sub (ws' := [(ro 0, .inr (6, [.int (nI 0), .ref (ro 1), .ref (ro 2), .int (nI S.1), .ref (ro 3), .ref (ro 4), .ref (ro 5), .int (nI S.2.2.2.1), .ref (ro 6), .ref (ro 7), .int stp, .int efr, .int esz, .int etr, .ref (ro 8), .ref (ro 9), .ref (ro 10), .ref (ro 11), .ref (ro 12), .ref (ro 13), .ref (ro 14), .ref (ro 15)])), (ro 1, .inl (Y.2 0, 300, .inl val)), (ro 3, .inl (Y.2 0, 8, .inl tre)), (ro 4, .inl (Y.2 0, 8, .inl spa))]) [0, 1, 3, 4] rfl) ((hD.sub (ws' := [(ro 0, .inr (6, [.int (nI 0), .ref (ro 1), .ref (ro 2), .int (nI S.1), .ref (ro 3), .ref (ro 4), .ref (ro 5), .int (nI S.2.2.2.1), .ref (ro 6), .ref (ro 7), .int stp, .int efr, .int esz, .int etr, .ref (ro 8), .ref (ro 9), .ref (ro 10), .ref (ro 11), .ref (ro 12), .ref (ro 13), .ref (ro 14), .ref (ro 15)])), (ro 1, .inl (Y.2 0, 300, .inl val)), (ro 3, .inl (Y.2 0, 8, .inl tre)), (ro 4, .inl (Y.2 0, 8, .inl spa))]) [0, 1, 3, 4] (by decide) rfl).weaken (fun _ _ _ _ => trivial)) jk 0 km9 (by omega) (by omega)) ok_X6_rootOf tw_4_33 dX6_gossip_103 rfl rfl (Nat.le_of_ble_eq_true rfl) ⟨Nat.le_of_ble_eq_true rfl, Nat.le_of_ble_eq_true rfl⟩ ⟨Nat.le_of_ble_eq_true rfl, Nat.le_of_ble_eq_true rfl⟩ (th_subL [0, 1, 3, 4] rfl) (th_ki (fun rz9 H locs hp hsm hS => ?_))
            obtain ⟨hrz, z_11t, z_11s, hPc⟩ := hp
            have hP : va_P Y.1 vwCl [(ro 0, .inr (6, [.int (nI 0), .ref (ro 1), .ref (ro 2), .int (nI S.1), .ref (ro 3), .ref (ro 4), .ref (ro 5), .int (nI S.2.2.2.1), .ref (ro 6), .ref (ro 7), .int stp, .int efr, .int esz, .int etr, .ref (ro 8), .ref (ro 9), .ref (ro 10), .ref (ro 11), .ref (ro 12), .ref (ro 13), .ref (ro 14), .ref (ro 15)])), (ro 1, .inl (Y.2 0, 300, .inl val)), (ro 2, .inl (Y.2 0, 3, .inl siz)), (ro 3, .inl (Y.2 0, 8, .inl z_11t)), (ro 4, .inl (Y.2 0, 8, .inl z_11s)), (ro 5, .inl (Y.2 0, 12, .inl pro)), (ro 6, .inl (Y.2 0, 12, .inl bes)), (ro 7, .inl (Y.2 1, 12, .inl isr)), (ro 8, .inl (Y.2 0, 64, .inl key)), (ro 9, .inl (Y.2 0, 64, .inl lev)), (ro 10, .inl (Y.2 0, 4, .inl kvi)), (ro 11, .inl (Y.2 0, 4, .inl ksz)), (ro 12, .inl (Y.2 0, 4, .inl krt)), (ro 13, .inl (Y.2 1, 4, .inl ala)), (ro 14, .inl (Y.2 0, 4, .inl fol)), (ro 15, .inl (Y.2 0, 4, .inl cts))] _ := (th_join (wr := [(ro 2, .inl (Y.2 0, 3, .inl siz)), (ro 5, .inl (Y.2 0, 12, .inl pro)), (ro 6, .inl (Y.2 0, 12, .inl bes)), (ro 7, .inl (Y.2 1, 12, .inl isr)), (ro 8, .inl (Y.2 0, 64, .inl key)), (ro 9, .inl (Y.2 0, 64, .inl lev)), (ro 10, .inl (Y.2 0, 4, .inl kvi)), (ro 11, .inl (Y.2 0, 4, .inl ksz)), (ro 12, .inl (Y.2 0, 4, .inl krt)), (ro 13, .inl (Y.2 1, 4, .inl ala)), (ro 14, .inl (Y.2 0, 4, .inl fol)), (ro 15, .inl (Y.2 0, 4, .inl cts))]) hP hD [2, 5, 6, 7, 8, 9, 10, 11, 12, 13, 14, 15] [0, 1, 3, 4] rfl rfl (by decide) hsm hPc).sub [12, 13, 0, 14, 15, 1, 2, 3, 4, 5, 6, 7, 8, 9, 10, 11] rfl
            have hD : va_D _ [(ro 0, .inr (6, [.int (nI 0), .ref (ro 1), .ref (ro 2), .int (nI S.1), .ref (ro 3), .ref (ro 4), .ref (ro 5), .int (nI S.2.2.2.1), .ref (ro 6), .ref (ro 7), .int stp, .int efr, .int esz, .int etr, .ref (ro 8), .ref (ro 9), .ref (ro 10), .ref (ro 11), .ref (ro 12), .ref (ro 13), .ref (ro 14), .ref (ro 15)])), (ro 1, .inl (Y.2 0, 300, .inl val)), (ro 2, .inl (Y.2 0, 3, .inl siz)), (ro 3, .inl (Y.2 0, 8, .inl z_11t)), (ro 4, .inl (Y.2 0, 8, .inl z_11s)), (ro 5, .inl (Y.2 0, 12, .inl pro)), (ro 6, .inl (Y.2 0, 12, .inl bes)), (ro 7, .inl (Y.2 1, 12, .inl isr)), (ro 8, .inl (Y.2 0, 64, .inl key)), (ro 9, .inl (Y.2 0, 64, .inl lev)), (ro 10, .inl (Y.2 0, 4, .inl kvi)), (ro 11, .inl (Y.2 0, 4, .inl ksz)), (ro 12, .inl (Y.2 0, 4, .inl krt)), (ro 13, .inl (Y.2 1, 4, .inl ala)), (ro 14, .inl (Y.2 0, 4, .inl fol)), (ro 15, .inl (Y.2 0, 4, .inl cts))] := th_Dsame hD rfl
            subst hrz
            refine th_ti (th_rt_c _ _ _ (fun k9 hk9 => (hfjk _ (by omega)).1)) ?_
            refine lv_aload_n hx hb dX6_gossip_106 rfl (lv_at hl 2 rfl) ?_
            refine va_get (D := Y.1) (ci := 6) (v := .ref (ro 12)) (C := RX6) (T := TX6) (N := 22) hx hb hts inX6 hown hK hP 0 rfl rfl 18 (by decide) (hts _ tw_3_173) (fun _ h9 => h9) rfl dX6_gossip_107 ?_
            refine lv_iload hx hb dX6_gossip_110 (lv_at hl 0 rfl) ?_
            refine th_iald hx hb hK hP 12 rfl (j := j2) (by omega) (by omega) dX6_gossip_112 ?_
            refine th_ti (show krt j2 = S.2.2.2.2.2.2.2 j2 1 from (hv.2.2.2.2.2 j2 j2b).1.2.1) ?_
            refine lv_icmp_ne (tgt := 120) hx hb dX6_gossip_113 (by decide) (fun c_12 => ?_) (fun c_12 => ?_)
            · skip
              have q3 : ¬ th_ft S j1 j2 := fun z9 => z9.elim (fun z8 => c_4 z8) (fun z8 => by
                have z7 := z8 jk jm hKs hKm
                rw [hW0, hWm, th_ixN (by omega), th_ixN (by omega)] at z7
                exact c_12 (z7.1 (by omega)))
              have hvA : th_RIv (th_sA S j1) val siz pro key kvi ksz krt (upd ala j1 (nI 1)) fol cts := th_RvW hv j1b (hv.2.2.2.2.2 j1 j1b).2.2.1 (Or.inr rfl) (hv.2.2.2.2.2 j1 j1b).2.1 (hv.2.2.2.2.2 j1 j1b).1.1 (hv.2.2.2.2.2 j1 j1b).1.2.1 pk_us (hv.2.2.2.2.2 j1 j1b).1.2.2.2.1 (hv.2.2.2.2.2 j1 j1b).1.2.2.2.2 (fun a9 h9 => ⟨rfl, rfl, rfl, pk_un h9, rfl, rfl⟩)
              refine lv_iconst (v := nI 0) hx hb dX6_gossip_120 (by decide) ?_
              refine lv_istore (lv' := [(5, .int (nI 0)), (4, .int (nI j2)), (3, .int (nI j1)), (0, .ref (ro 0)), (1, .int (nI j1)), (2, .int (nI j2))]) hx hb dX6_gossip_121 hl (by decide) rfl (fun ls hl => ?_)
              refine lv_aload_n hx hb dX6_gossip_123 rfl (lv_at hl 3 rfl) ?_
              refine va_get (D := Y.1) (ci := 6) (v := .ref (ro 13)) (C := RX6) (T := TX6) (N := 22) hx hb hts inX6 hown hK hP 0 rfl rfl 19 (by decide) (hts _ tw_3_174) (fun _ h9 => h9) rfl dX6_gossip_124 ?_
              refine lv_iload_n hx hb dX6_gossip_127 rfl (lv_at hl 4 rfl) ?_
              refine lv_aload_n hx hb dX6_gossip_128 rfl (lv_at hl 3 rfl) ?_
              refine va_get (D := Y.1) (ci := 6) (v := .ref (ro 13)) (C := RX6) (T := TX6) (N := 22) hx hb hts inX6 hown hK hP 0 rfl rfl 19 (by decide) (hts _ tw_3_174) (fun _ h9 => h9) rfl dX6_gossip_129 ?_
              refine lv_iload_n hx hb dX6_gossip_132 rfl (lv_at hl 4 rfl) ?_
              refine th_zald hx hb hK hP 13 rfl (j := j1) (by omega) (by omega) dX6_gossip_133 ?_
              rcases (hv.2.2.2.2.2 j1 j1b).2.2.2 with ha9 | ha9
              · have ha9z : ala j1 = nI 0 := (hv.2.2.2.2.2 j1 j1b).1.2.2.1.trans ha9
                refine th_ti (show ala j1 = nI 0 from ha9z) ?_
                refine th_zne (tgt := 142) hx hb dX6_gossip_134 (by decide) (by omega) (fun c_13 => by exfalso; omega) (fun c_13 => ?_)
                refine lv_iload hx hb dX6_gossip_137 (lv_at hl 0 rfl) ?_
                refine th_zne (tgt := 146) hx hb dX6_gossip_139 (by decide) (by omega) (fun c_14 => by exfalso; omega) (fun c_14 => ?_)
                refine lv_iconst (v := nI 1) hx hb dX6_gossip_142 (by decide) ?_
                refine lv_goto (tgt := 147) hx hb dX6_gossip_143 (by decide) ?_
                refine th_zast hx hb hK hP hD hS 13 rfl (j := j1) (by omega) (by omega) (by first | exact Or.inl rfl | exact Or.inr rfl | assumption) dX6_gossip_147 (fun H locs hP hD hS => ?_)
                have hP : va_P Y.1 vwCl [(ro 0, .inr (6, [.int (nI 0), .ref (ro 1), .ref (ro 2), .int (nI S.1), .ref (ro 3), .ref (ro 4), .ref (ro 5), .int (nI S.2.2.2.1), .ref (ro 6), .ref (ro 7), .int stp, .int efr, .int esz, .int etr, .ref (ro 8), .ref (ro 9), .ref (ro 10), .ref (ro 11), .ref (ro 12), .ref (ro 13), .ref (ro 14), .ref (ro 15)])), (ro 1, .inl (Y.2 0, 300, .inl val)), (ro 2, .inl (Y.2 0, 3, .inl siz)), (ro 3, .inl (Y.2 0, 8, .inl z_11t)), (ro 4, .inl (Y.2 0, 8, .inl z_11s)), (ro 5, .inl (Y.2 0, 12, .inl pro)), (ro 6, .inl (Y.2 0, 12, .inl bes)), (ro 7, .inl (Y.2 1, 12, .inl isr)), (ro 8, .inl (Y.2 0, 64, .inl key)), (ro 9, .inl (Y.2 0, 64, .inl lev)), (ro 10, .inl (Y.2 0, 4, .inl kvi)), (ro 11, .inl (Y.2 0, 4, .inl ksz)), (ro 12, .inl (Y.2 0, 4, .inl krt)), (ro 13, .inl (Y.2 1, 4, .inl (upd ala j1 (nI 1)))), (ro 14, .inl (Y.2 0, 4, .inl fol)), (ro 15, .inl (Y.2 0, 4, .inl cts))] _ := hP
                have hD : va_D _ [(ro 0, .inr (6, [.int (nI 0), .ref (ro 1), .ref (ro 2), .int (nI S.1), .ref (ro 3), .ref (ro 4), .ref (ro 5), .int (nI S.2.2.2.1), .ref (ro 6), .ref (ro 7), .int stp, .int efr, .int esz, .int etr, .ref (ro 8), .ref (ro 9), .ref (ro 10), .ref (ro 11), .ref (ro 12), .ref (ro 13), .ref (ro 14), .ref (ro 15)])), (ro 1, .inl (Y.2 0, 300, .inl val)), (ro 2, .inl (Y.2 0, 3, .inl siz)), (ro 3, .inl (Y.2 0, 8, .inl z_11t)), (ro 4, .inl (Y.2 0, 8, .inl z_11s)), (ro 5, .inl (Y.2 0, 12, .inl pro)), (ro 6, .inl (Y.2 0, 12, .inl bes)), (ro 7, .inl (Y.2 1, 12, .inl isr)), (ro 8, .inl (Y.2 0, 64, .inl key)), (ro 9, .inl (Y.2 0, 64, .inl lev)), (ro 10, .inl (Y.2 0, 4, .inl kvi)), (ro 11, .inl (Y.2 0, 4, .inl ksz)), (ro 12, .inl (Y.2 0, 4, .inl krt)), (ro 13, .inl (Y.2 1, 4, .inl (upd ala j1 (nI 1)))), (ro 14, .inl (Y.2 0, 4, .inl fol)), (ro 15, .inl (Y.2 0, 4, .inl cts))] := hD
                refine lv_aload_n hx hb dX6_gossip_148 rfl (lv_at hl 3 rfl) ?_
                refine va_get (D := Y.1) (ci := 6) (v := .ref (ro 13)) (C := RX6) (T := TX6) (N := 22) hx hb hts inX6 hown hK hP 0 rfl rfl 19 (by decide) (hts _ tw_3_174) (fun _ h9 => h9) rfl dX6_gossip_149 ?_
                refine lv_iload_n hx hb dX6_gossip_152 rfl (lv_at hl 5 rfl) ?_
                refine lv_aload_n hx hb dX6_gossip_153 rfl (lv_at hl 3 rfl) ?_
                refine va_get (D := Y.1) (ci := 6) (v := .ref (ro 13)) (C := RX6) (T := TX6) (N := 22) hx hb hts inX6 hown hK hP 0 rfl rfl 19 (by decide) (hts _ tw_3_174) (fun _ h9 => h9) rfl dX6_gossip_154 ?_
                refine lv_iload_n hx hb dX6_gossip_157 rfl (lv_at hl 5 rfl) ?_
                refine th_zald hx hb hK hP 13 rfl (j := j2) (by omega) (by omega) dX6_gossip_158 ?_
                refine th_ti (show (upd ala j1 (nI 1)) j2 = ala j2 from pk_un (by omega)) ?_
                rcases (hv.2.2.2.2.2 j2 j2b).2.2.2 with hb9 | hb9
                · have hb9z : ala j2 = nI 0 := (hv.2.2.2.2.2 j2 j2b).1.2.2.1.trans hb9
                  refine th_ti (show ala j2 = nI 0 from hb9z) ?_
                  refine th_zne (tgt := 167) hx hb dX6_gossip_159 (by decide) (by omega) (fun c_15 => by exfalso; omega) (fun c_15 => ?_)
                  refine lv_iload hx hb dX6_gossip_162 (lv_at hl 0 rfl) ?_
                  refine th_zne (tgt := 171) hx hb dX6_gossip_164 (by decide) (by omega) (fun c_16 => by exfalso; omega) (fun c_16 => ?_)
                  refine lv_iconst (v := nI 1) hx hb dX6_gossip_167 (by decide) ?_
                  refine lv_goto (tgt := 172) hx hb dX6_gossip_168 (by decide) ?_
                  refine th_zast hx hb hK hP hD hS 13 rfl (j := j2) (by omega) (by omega) (by first | exact Or.inl rfl | exact Or.inr rfl | assumption) dX6_gossip_172 (fun H locs hP hD hS => ?_)
                  have hP : va_P Y.1 vwCl [(ro 0, .inr (6, [.int (nI 0), .ref (ro 1), .ref (ro 2), .int (nI S.1), .ref (ro 3), .ref (ro 4), .ref (ro 5), .int (nI S.2.2.2.1), .ref (ro 6), .ref (ro 7), .int stp, .int efr, .int esz, .int etr, .ref (ro 8), .ref (ro 9), .ref (ro 10), .ref (ro 11), .ref (ro 12), .ref (ro 13), .ref (ro 14), .ref (ro 15)])), (ro 1, .inl (Y.2 0, 300, .inl val)), (ro 2, .inl (Y.2 0, 3, .inl siz)), (ro 3, .inl (Y.2 0, 8, .inl z_11t)), (ro 4, .inl (Y.2 0, 8, .inl z_11s)), (ro 5, .inl (Y.2 0, 12, .inl pro)), (ro 6, .inl (Y.2 0, 12, .inl bes)), (ro 7, .inl (Y.2 1, 12, .inl isr)), (ro 8, .inl (Y.2 0, 64, .inl key)), (ro 9, .inl (Y.2 0, 64, .inl lev)), (ro 10, .inl (Y.2 0, 4, .inl kvi)), (ro 11, .inl (Y.2 0, 4, .inl ksz)), (ro 12, .inl (Y.2 0, 4, .inl krt)), (ro 13, .inl (Y.2 1, 4, .inl (upd (upd ala j1 (nI 1)) j2 (nI 1)))), (ro 14, .inl (Y.2 0, 4, .inl fol)), (ro 15, .inl (Y.2 0, 4, .inl cts))] _ := hP
                  have hD : va_D _ [(ro 0, .inr (6, [.int (nI 0), .ref (ro 1), .ref (ro 2), .int (nI S.1), .ref (ro 3), .ref (ro 4), .ref (ro 5), .int (nI S.2.2.2.1), .ref (ro 6), .ref (ro 7), .int stp, .int efr, .int esz, .int etr, .ref (ro 8), .ref (ro 9), .ref (ro 10), .ref (ro 11), .ref (ro 12), .ref (ro 13), .ref (ro 14), .ref (ro 15)])), (ro 1, .inl (Y.2 0, 300, .inl val)), (ro 2, .inl (Y.2 0, 3, .inl siz)), (ro 3, .inl (Y.2 0, 8, .inl z_11t)), (ro 4, .inl (Y.2 0, 8, .inl z_11s)), (ro 5, .inl (Y.2 0, 12, .inl pro)), (ro 6, .inl (Y.2 0, 12, .inl bes)), (ro 7, .inl (Y.2 1, 12, .inl isr)), (ro 8, .inl (Y.2 0, 64, .inl key)), (ro 9, .inl (Y.2 0, 64, .inl lev)), (ro 10, .inl (Y.2 0, 4, .inl kvi)), (ro 11, .inl (Y.2 0, 4, .inl ksz)), (ro 12, .inl (Y.2 0, 4, .inl krt)), (ro 13, .inl (Y.2 1, 4, .inl (upd (upd ala j1 (nI 1)) j2 (nI 1)))), (ro 14, .inl (Y.2 0, 4, .inl fol)), (ro 15, .inl (Y.2 0, 4, .inl cts))] := hD
                  refine lv_iload hx hb dX6_gossip_173 (lv_at hl 0 rfl) ?_
                  refine th_zret hx hb hr hlk hQ hS dX6_gossip_175 (Nat.le_of_ble_eq_true rfl) (Nat.le_of_ble_eq_true rfl) (by first | exact Or.inl rfl | exact Or.inr rfl | assumption | exact th_b01 _) ?_
                  show th_ro Y ro (_) _ _
                  unfold sp_gossip
                  simp only [zj1, zj2]
                  rw [th_ifT ⟨q1, q2⟩]
                  rw [th_ifF q3]
                  exact th_roT (rfl) (th_rgI hP (th_RvW hvA j2b (hvA.2.2.2.2.2 j2 j2b).2.2.1 (Or.inr rfl) (hvA.2.2.2.2.2 j2 j2b).2.1 (hvA.2.2.2.2.2 j2 j2b).1.1 (hvA.2.2.2.2.2 j2 j2b).1.2.1 pk_us (hvA.2.2.2.2.2 j2 j2b).1.2.2.2.1 (hvA.2.2.2.2.2 j2 j2b).1.2.2.2.2 (fun a9 h9 => ⟨rfl, rfl, rfl, pk_un h9, rfl, rfl⟩)))
                  
                · have hb9z : ala j2 = nI 1 := (hv.2.2.2.2.2 j2 j2b).1.2.2.1.trans hb9
                  refine th_ti (show ala j2 = nI 1 from hb9z) ?_
                  refine th_zne (tgt := 167) hx hb dX6_gossip_159 (by decide) (by omega) (fun c_17 => ?_) (fun c_17 => by exfalso; omega)
                  refine lv_iconst (v := nI 1) hx hb dX6_gossip_167 (by decide) ?_
                  refine lv_goto (tgt := 172) hx hb dX6_gossip_168 (by decide) ?_
                  refine th_zast hx hb hK hP hD hS 13 rfl (j := j2) (by omega) (by omega) (by first | exact Or.inl rfl | exact Or.inr rfl | assumption) dX6_gossip_172 (fun H locs hP hD hS => ?_)
                  have hP : va_P Y.1 vwCl [(ro 0, .inr (6, [.int (nI 0), .ref (ro 1), .ref (ro 2), .int (nI S.1), .ref (ro 3), .ref (ro 4), .ref (ro 5), .int (nI S.2.2.2.1), .ref (ro 6), .ref (ro 7), .int stp, .int efr, .int esz, .int etr, .ref (ro 8), .ref (ro 9), .ref (ro 10), .ref (ro 11), .ref (ro 12), .ref (ro 13), .ref (ro 14), .ref (ro 15)])), (ro 1, .inl (Y.2 0, 300, .inl val)), (ro 2, .inl (Y.2 0, 3, .inl siz)), (ro 3, .inl (Y.2 0, 8, .inl z_11t)), (ro 4, .inl (Y.2 0, 8, .inl z_11s)), (ro 5, .inl (Y.2 0, 12, .inl pro)), (ro 6, .inl (Y.2 0, 12, .inl bes)), (ro 7, .inl (Y.2 1, 12, .inl isr)), (ro 8, .inl (Y.2 0, 64, .inl key)), (ro 9, .inl (Y.2 0, 64, .inl lev)), (ro 10, .inl (Y.2 0, 4, .inl kvi)), (ro 11, .inl (Y.2 0, 4, .inl ksz)), (ro 12, .inl (Y.2 0, 4, .inl krt)), (ro 13, .inl (Y.2 1, 4, .inl (upd (upd ala j1 (nI 1)) j2 (nI 1)))), (ro 14, .inl (Y.2 0, 4, .inl fol)), (ro 15, .inl (Y.2 0, 4, .inl cts))] _ := hP
                  have hD : va_D _ [(ro 0, .inr (6, [.int (nI 0), .ref (ro 1), .ref (ro 2), .int (nI S.1), .ref (ro 3), .ref (ro 4), .ref (ro 5), .int (nI S.2.2.2.1), .ref (ro 6), .ref (ro 7), .int stp, .int efr, .int esz, .int etr, .ref (ro 8), .ref (ro 9), .ref (ro 10), .ref (ro 11), .ref (ro 12), .ref (ro 13), .ref (ro 14), .ref (ro 15)])), (ro 1, .inl (Y.2 0, 300, .inl val)), (ro 2, .inl (Y.2 0, 3, .inl siz)), (ro 3, .inl (Y.2 0, 8, .inl z_11t)), (ro 4, .inl (Y.2 0, 8, .inl z_11s)), (ro 5, .inl (Y.2 0, 12, .inl pro)), (ro 6, .inl (Y.2 0, 12, .inl bes)), (ro 7, .inl (Y.2 1, 12, .inl isr)), (ro 8, .inl (Y.2 0, 64, .inl key)), (ro 9, .inl (Y.2 0, 64, .inl lev)), (ro 10, .inl (Y.2 0, 4, .inl kvi)), (ro 11, .inl (Y.2 0, 4, .inl ksz)), (ro 12, .inl (Y.2 0, 4, .inl krt)), (ro 13, .inl (Y.2 1, 4, .inl (upd (upd ala j1 (nI 1)) j2 (nI 1)))), (ro 14, .inl (Y.2 0, 4, .inl fol)), (ro 15, .inl (Y.2 0, 4, .inl cts))] := hD
                  refine lv_iload hx hb dX6_gossip_173 (lv_at hl 0 rfl) ?_
                  refine th_zret hx hb hr hlk hQ hS dX6_gossip_175 (Nat.le_of_ble_eq_true rfl) (Nat.le_of_ble_eq_true rfl) (by first | exact Or.inl rfl | exact Or.inr rfl | assumption | exact th_b01 _) ?_
                  show th_ro Y ro (_) _ _
                  unfold sp_gossip
                  simp only [zj1, zj2]
                  rw [th_ifT ⟨q1, q2⟩]
                  rw [th_ifF q3]
                  exact th_roT (rfl) (th_rgI hP (th_RvW hvA j2b (hvA.2.2.2.2.2 j2 j2b).2.2.1 (Or.inr rfl) (hvA.2.2.2.2.2 j2 j2b).2.1 (hvA.2.2.2.2.2 j2 j2b).1.1 (hvA.2.2.2.2.2 j2 j2b).1.2.1 pk_us (hvA.2.2.2.2.2 j2 j2b).1.2.2.2.1 (hvA.2.2.2.2.2 j2 j2b).1.2.2.2.2 (fun a9 h9 => ⟨rfl, rfl, rfl, pk_un h9, rfl, rfl⟩)))
                  
              · have ha9z : ala j1 = nI 1 := (hv.2.2.2.2.2 j1 j1b).1.2.2.1.trans ha9
                refine th_ti (show ala j1 = nI 1 from ha9z) ?_
                refine th_zne (tgt := 142) hx hb dX6_gossip_134 (by decide) (by omega) (fun c_18 => ?_) (fun c_18 => by exfalso; omega)
                refine lv_iconst (v := nI 1) hx hb dX6_gossip_142 (by decide) ?_
                refine lv_goto (tgt := 147) hx hb dX6_gossip_143 (by decide) ?_
                refine th_zast hx hb hK hP hD hS 13 rfl (j := j1) (by omega) (by omega) (by first | exact Or.inl rfl | exact Or.inr rfl | assumption) dX6_gossip_147 (fun H locs hP hD hS => ?_)
                have hP : va_P Y.1 vwCl [(ro 0, .inr (6, [.int (nI 0), .ref (ro 1), .ref (ro 2), .int (nI S.1), .ref (ro 3), .ref (ro 4), .ref (ro 5), .int (nI S.2.2.2.1), .ref (ro 6), .ref (ro 7), .int stp, .int efr, .int esz, .int etr, .ref (ro 8), .ref (ro 9), .ref (ro 10), .ref (ro 11), .ref (ro 12), .ref (ro 13), .ref (ro 14), .ref (ro 15)])), (ro 1, .inl (Y.2 0, 300, .inl val)), (ro 2, .inl (Y.2 0, 3, .inl siz)), (ro 3, .inl (Y.2 0, 8, .inl z_11t)), (ro 4, .inl (Y.2 0, 8, .inl z_11s)), (ro 5, .inl (Y.2 0, 12, .inl pro)), (ro 6, .inl (Y.2 0, 12, .inl bes)), (ro 7, .inl (Y.2 1, 12, .inl isr)), (ro 8, .inl (Y.2 0, 64, .inl key)), (ro 9, .inl (Y.2 0, 64, .inl lev)), (ro 10, .inl (Y.2 0, 4, .inl kvi)), (ro 11, .inl (Y.2 0, 4, .inl ksz)), (ro 12, .inl (Y.2 0, 4, .inl krt)), (ro 13, .inl (Y.2 1, 4, .inl (upd ala j1 (nI 1)))), (ro 14, .inl (Y.2 0, 4, .inl fol)), (ro 15, .inl (Y.2 0, 4, .inl cts))] _ := hP
                have hD : va_D _ [(ro 0, .inr (6, [.int (nI 0), .ref (ro 1), .ref (ro 2), .int (nI S.1), .ref (ro 3), .ref (ro 4), .ref (ro 5), .int (nI S.2.2.2.1), .ref (ro 6), .ref (ro 7), .int stp, .int efr, .int esz, .int etr, .ref (ro 8), .ref (ro 9), .ref (ro 10), .ref (ro 11), .ref (ro 12), .ref (ro 13), .ref (ro 14), .ref (ro 15)])), (ro 1, .inl (Y.2 0, 300, .inl val)), (ro 2, .inl (Y.2 0, 3, .inl siz)), (ro 3, .inl (Y.2 0, 8, .inl z_11t)), (ro 4, .inl (Y.2 0, 8, .inl z_11s)), (ro 5, .inl (Y.2 0, 12, .inl pro)), (ro 6, .inl (Y.2 0, 12, .inl bes)), (ro 7, .inl (Y.2 1, 12, .inl isr)), (ro 8, .inl (Y.2 0, 64, .inl key)), (ro 9, .inl (Y.2 0, 64, .inl lev)), (ro 10, .inl (Y.2 0, 4, .inl kvi)), (ro 11, .inl (Y.2 0, 4, .inl ksz)), (ro 12, .inl (Y.2 0, 4, .inl krt)), (ro 13, .inl (Y.2 1, 4, .inl (upd ala j1 (nI 1)))), (ro 14, .inl (Y.2 0, 4, .inl fol)), (ro 15, .inl (Y.2 0, 4, .inl cts))] := hD
                refine lv_aload_n hx hb dX6_gossip_148 rfl (lv_at hl 3 rfl) ?_
                refine va_get (D := Y.1) (ci := 6) (v := .ref (ro 13)) (C := RX6) (T := TX6) (N := 22) hx hb hts inX6 hown hK hP 0 rfl rfl 19 (by decide) (hts _ tw_3_174) (fun _ h9 => h9) rfl dX6_gossip_149 ?_
                refine lv_iload_n hx hb dX6_gossip_152 rfl (lv_at hl 5 rfl) ?_
                refine lv_aload_n hx hb dX6_gossip_153 rfl (lv_at hl 3 rfl) ?_
                refine va_get (D := Y.1) (ci := 6) (v := .ref (ro 13)) (C := RX6) (T := TX6) (N := 22) hx hb hts inX6 hown hK hP 0 rfl rfl 19 (by decide) (hts _ tw_3_174) (fun _ h9 => h9) rfl dX6_gossip_154 ?_
                refine lv_iload_n hx hb dX6_gossip_157 rfl (lv_at hl 5 rfl) ?_
                refine th_zald hx hb hK hP 13 rfl (j := j2) (by omega) (by omega) dX6_gossip_158 ?_
                refine th_ti (show (upd ala j1 (nI 1)) j2 = ala j2 from pk_un (by omega)) ?_
                rcases (hv.2.2.2.2.2 j2 j2b).2.2.2 with hb9 | hb9
                · have hb9z : ala j2 = nI 0 := (hv.2.2.2.2.2 j2 j2b).1.2.2.1.trans hb9
                  refine th_ti (show ala j2 = nI 0 from hb9z) ?_
                  refine th_zne (tgt := 167) hx hb dX6_gossip_159 (by decide) (by omega) (fun c_19 => by exfalso; omega) (fun c_19 => ?_)
                  refine lv_iload hx hb dX6_gossip_162 (lv_at hl 0 rfl) ?_
                  refine th_zne (tgt := 171) hx hb dX6_gossip_164 (by decide) (by omega) (fun c_20 => by exfalso; omega) (fun c_20 => ?_)
                  refine lv_iconst (v := nI 1) hx hb dX6_gossip_167 (by decide) ?_
                  refine lv_goto (tgt := 172) hx hb dX6_gossip_168 (by decide) ?_
                  refine th_zast hx hb hK hP hD hS 13 rfl (j := j2) (by omega) (by omega) (by first | exact Or.inl rfl | exact Or.inr rfl | assumption) dX6_gossip_172 (fun H locs hP hD hS => ?_)
                  have hP : va_P Y.1 vwCl [(ro 0, .inr (6, [.int (nI 0), .ref (ro 1), .ref (ro 2), .int (nI S.1), .ref (ro 3), .ref (ro 4), .ref (ro 5), .int (nI S.2.2.2.1), .ref (ro 6), .ref (ro 7), .int stp, .int efr, .int esz, .int etr, .ref (ro 8), .ref (ro 9), .ref (ro 10), .ref (ro 11), .ref (ro 12), .ref (ro 13), .ref (ro 14), .ref (ro 15)])), (ro 1, .inl (Y.2 0, 300, .inl val)), (ro 2, .inl (Y.2 0, 3, .inl siz)), (ro 3, .inl (Y.2 0, 8, .inl z_11t)), (ro 4, .inl (Y.2 0, 8, .inl z_11s)), (ro 5, .inl (Y.2 0, 12, .inl pro)), (ro 6, .inl (Y.2 0, 12, .inl bes)), (ro 7, .inl (Y.2 1, 12, .inl isr)), (ro 8, .inl (Y.2 0, 64, .inl key)), (ro 9, .inl (Y.2 0, 64, .inl lev)), (ro 10, .inl (Y.2 0, 4, .inl kvi)), (ro 11, .inl (Y.2 0, 4, .inl ksz)), (ro 12, .inl (Y.2 0, 4, .inl krt)), (ro 13, .inl (Y.2 1, 4, .inl (upd (upd ala j1 (nI 1)) j2 (nI 1)))), (ro 14, .inl (Y.2 0, 4, .inl fol)), (ro 15, .inl (Y.2 0, 4, .inl cts))] _ := hP
                  have hD : va_D _ [(ro 0, .inr (6, [.int (nI 0), .ref (ro 1), .ref (ro 2), .int (nI S.1), .ref (ro 3), .ref (ro 4), .ref (ro 5), .int (nI S.2.2.2.1), .ref (ro 6), .ref (ro 7), .int stp, .int efr, .int esz, .int etr, .ref (ro 8), .ref (ro 9), .ref (ro 10), .ref (ro 11), .ref (ro 12), .ref (ro 13), .ref (ro 14), .ref (ro 15)])), (ro 1, .inl (Y.2 0, 300, .inl val)), (ro 2, .inl (Y.2 0, 3, .inl siz)), (ro 3, .inl (Y.2 0, 8, .inl z_11t)), (ro 4, .inl (Y.2 0, 8, .inl z_11s)), (ro 5, .inl (Y.2 0, 12, .inl pro)), (ro 6, .inl (Y.2 0, 12, .inl bes)), (ro 7, .inl (Y.2 1, 12, .inl isr)), (ro 8, .inl (Y.2 0, 64, .inl key)), (ro 9, .inl (Y.2 0, 64, .inl lev)), (ro 10, .inl (Y.2 0, 4, .inl kvi)), (ro 11, .inl (Y.2 0, 4, .inl ksz)), (ro 12, .inl (Y.2 0, 4, .inl krt)), (ro 13, .inl (Y.2 1, 4, .inl (upd (upd ala j1 (nI 1)) j2 (nI 1)))), (ro 14, .inl (Y.2 0, 4, .inl fol)), (ro 15, .inl (Y.2 0, 4, .inl cts))] := hD
                  refine lv_iload hx hb dX6_gossip_173 (lv_at hl 0 rfl) ?_
                  refine th_zret hx hb hr hlk hQ hS dX6_gossip_175 (Nat.le_of_ble_eq_true rfl) (Nat.le_of_ble_eq_true rfl) (by first | exact Or.inl rfl | exact Or.inr rfl | assumption | exact th_b01 _) ?_
                  show th_ro Y ro (_) _ _
                  unfold sp_gossip
                  simp only [zj1, zj2]
                  rw [th_ifT ⟨q1, q2⟩]
                  rw [th_ifF q3]
                  exact th_roT (rfl) (th_rgI hP (th_RvW hvA j2b (hvA.2.2.2.2.2 j2 j2b).2.2.1 (Or.inr rfl) (hvA.2.2.2.2.2 j2 j2b).2.1 (hvA.2.2.2.2.2 j2 j2b).1.1 (hvA.2.2.2.2.2 j2 j2b).1.2.1 pk_us (hvA.2.2.2.2.2 j2 j2b).1.2.2.2.1 (hvA.2.2.2.2.2 j2 j2b).1.2.2.2.2 (fun a9 h9 => ⟨rfl, rfl, rfl, pk_un h9, rfl, rfl⟩)))
                  
                · have hb9z : ala j2 = nI 1 := (hv.2.2.2.2.2 j2 j2b).1.2.2.1.trans hb9
                  refine th_ti (show ala j2 = nI 1 from hb9z) ?_
                  refine th_zne (tgt := 167) hx hb dX6_gossip_159 (by decide) (by omega) (fun c_21 => ?_) (fun c_21 => by exfalso; omega)
                  refine lv_iconst (v := nI 1) hx hb dX6_gossip_167 (by decide) ?_
                  refine lv_goto (tgt := 172) hx hb dX6_gossip_168 (by decide) ?_
                  refine th_zast hx hb hK hP hD hS 13 rfl (j := j2) (by omega) (by omega) (by first | exact Or.inl rfl | exact Or.inr rfl | assumption) dX6_gossip_172 (fun H locs hP hD hS => ?_)
                  have hP : va_P Y.1 vwCl [(ro 0, .inr (6, [.int (nI 0), .ref (ro 1), .ref (ro 2), .int (nI S.1), .ref (ro 3), .ref (ro 4), .ref (ro 5), .int (nI S.2.2.2.1), .ref (ro 6), .ref (ro 7), .int stp, .int efr, .int esz, .int etr, .ref (ro 8), .ref (ro 9), .ref (ro 10), .ref (ro 11), .ref (ro 12), .ref (ro 13), .ref (ro 14), .ref (ro 15)])), (ro 1, .inl (Y.2 0, 300, .inl val)), (ro 2, .inl (Y.2 0, 3, .inl siz)), (ro 3, .inl (Y.2 0, 8, .inl z_11t)), (ro 4, .inl (Y.2 0, 8, .inl z_11s)), (ro 5, .inl (Y.2 0, 12, .inl pro)), (ro 6, .inl (Y.2 0, 12, .inl bes)), (ro 7, .inl (Y.2 1, 12, .inl isr)), (ro 8, .inl (Y.2 0, 64, .inl key)), (ro 9, .inl (Y.2 0, 64, .inl lev)), (ro 10, .inl (Y.2 0, 4, .inl kvi)), (ro 11, .inl (Y.2 0, 4, .inl ksz)), (ro 12, .inl (Y.2 0, 4, .inl krt)), (ro 13, .inl (Y.2 1, 4, .inl (upd (upd ala j1 (nI 1)) j2 (nI 1)))), (ro 14, .inl (Y.2 0, 4, .inl fol)), (ro 15, .inl (Y.2 0, 4, .inl cts))] _ := hP
                  have hD : va_D _ [(ro 0, .inr (6, [.int (nI 0), .ref (ro 1), .ref (ro 2), .int (nI S.1), .ref (ro 3), .ref (ro 4), .ref (ro 5), .int (nI S.2.2.2.1), .ref (ro 6), .ref (ro 7), .int stp, .int efr, .int esz, .int etr, .ref (ro 8), .ref (ro 9), .ref (ro 10), .ref (ro 11), .ref (ro 12), .ref (ro 13), .ref (ro 14), .ref (ro 15)])), (ro 1, .inl (Y.2 0, 300, .inl val)), (ro 2, .inl (Y.2 0, 3, .inl siz)), (ro 3, .inl (Y.2 0, 8, .inl z_11t)), (ro 4, .inl (Y.2 0, 8, .inl z_11s)), (ro 5, .inl (Y.2 0, 12, .inl pro)), (ro 6, .inl (Y.2 0, 12, .inl bes)), (ro 7, .inl (Y.2 1, 12, .inl isr)), (ro 8, .inl (Y.2 0, 64, .inl key)), (ro 9, .inl (Y.2 0, 64, .inl lev)), (ro 10, .inl (Y.2 0, 4, .inl kvi)), (ro 11, .inl (Y.2 0, 4, .inl ksz)), (ro 12, .inl (Y.2 0, 4, .inl krt)), (ro 13, .inl (Y.2 1, 4, .inl (upd (upd ala j1 (nI 1)) j2 (nI 1)))), (ro 14, .inl (Y.2 0, 4, .inl fol)), (ro 15, .inl (Y.2 0, 4, .inl cts))] := hD
                  refine lv_iload hx hb dX6_gossip_173 (lv_at hl 0 rfl) ?_
                  refine th_zret hx hb hr hlk hQ hS dX6_gossip_175 (Nat.le_of_ble_eq_true rfl) (Nat.le_of_ble_eq_true rfl) (by first | exact Or.inl rfl | exact Or.inr rfl | assumption | exact th_b01 _) ?_
                  show th_ro Y ro (_) _ _
                  unfold sp_gossip
                  simp only [zj1, zj2]
                  rw [th_ifT ⟨q1, q2⟩]
                  rw [th_ifF q3]
                  exact th_roT (rfl) (th_rgI hP (th_RvW hvA j2b (hvA.2.2.2.2.2 j2 j2b).2.2.1 (Or.inr rfl) (hvA.2.2.2.2.2 j2 j2b).2.1 (hvA.2.2.2.2.2 j2 j2b).1.1 (hvA.2.2.2.2.2 j2 j2b).1.2.1 pk_us (hvA.2.2.2.2.2 j2 j2b).1.2.2.2.1 (hvA.2.2.2.2.2 j2 j2b).1.2.2.2.2 (fun a9 h9 => ⟨rfl, rfl, rfl, pk_un h9, rfl, rfl⟩)))
                  
            have q3 : th_ft S j1 j2 := Or.inr (fun i9 j9 hi9 hj9 => by
              rw [hKs] at hi9
              rw [hKm] at hj9
              cases hi9
              cases hj9
              rw [hW0, hWm, th_ixN (by omega), th_ixN (by omega)]
              exact ⟨fun _ => c_12, fun z9 => by exfalso; omega⟩)
            refine lv_iconst (v := nI 1) hx hb dX6_gossip_116 (by decide) ?_
            refine lv_goto (tgt := 121) hx hb dX6_gossip_117 (by decide) ?_
            refine lv_istore (lv' := [(5, .int (nI 1)), (4, .int (nI j2)), (3, .int (nI j1)), (0, .ref (ro 0)), (1, .int (nI j1)), (2, .int (nI j2))]) hx hb dX6_gossip_121 hl (by decide) rfl (fun ls hl => ?_)
            refine lv_aload_n hx hb dX6_gossip_123 rfl (lv_at hl 3 rfl) ?_
            refine va_get (D := Y.1) (ci := 6) (v := .ref (ro 13)) (C := RX6) (T := TX6) (N := 22) hx hb hts inX6 hown hK hP 0 rfl rfl 19 (by decide) (hts _ tw_3_174) (fun _ h9 => h9) rfl dX6_gossip_124 ?_
            refine lv_iload_n hx hb dX6_gossip_127 rfl (lv_at hl 4 rfl) ?_
            refine lv_aload_n hx hb dX6_gossip_128 rfl (lv_at hl 3 rfl) ?_
            refine va_get (D := Y.1) (ci := 6) (v := .ref (ro 13)) (C := RX6) (T := TX6) (N := 22) hx hb hts inX6 hown hK hP 0 rfl rfl 19 (by decide) (hts _ tw_3_174) (fun _ h9 => h9) rfl dX6_gossip_129 ?_
            refine lv_iload_n hx hb dX6_gossip_132 rfl (lv_at hl 4 rfl) ?_
            refine th_zald hx hb hK hP 13 rfl (j := j1) (by omega) (by omega) dX6_gossip_133 ?_
            rcases (hv.2.2.2.2.2 j1 j1b).2.2.2 with ha9 | ha9
            · have ha9z : ala j1 = nI 0 := (hv.2.2.2.2.2 j1 j1b).1.2.2.1.trans ha9
              refine th_ti (show ala j1 = nI 0 from ha9z) ?_
              refine th_zne (tgt := 142) hx hb dX6_gossip_134 (by decide) (by omega) (fun c_22 => by exfalso; omega) (fun c_22 => ?_)
              refine lv_iload hx hb dX6_gossip_137 (lv_at hl 0 rfl) ?_
              refine th_zne (tgt := 146) hx hb dX6_gossip_139 (by decide) (by omega) (fun c_23 => ?_) (fun c_23 => by exfalso; omega)
              refine lv_iconst (v := nI 0) hx hb dX6_gossip_146 (by decide) ?_
              refine th_zast hx hb hK hP hD hS 13 rfl (j := j1) (by omega) (by omega) (by first | exact Or.inl rfl | exact Or.inr rfl | assumption) dX6_gossip_147 (fun H locs hP hD hS => ?_)
              have hP : va_P Y.1 vwCl [(ro 0, .inr (6, [.int (nI 0), .ref (ro 1), .ref (ro 2), .int (nI S.1), .ref (ro 3), .ref (ro 4), .ref (ro 5), .int (nI S.2.2.2.1), .ref (ro 6), .ref (ro 7), .int stp, .int efr, .int esz, .int etr, .ref (ro 8), .ref (ro 9), .ref (ro 10), .ref (ro 11), .ref (ro 12), .ref (ro 13), .ref (ro 14), .ref (ro 15)])), (ro 1, .inl (Y.2 0, 300, .inl val)), (ro 2, .inl (Y.2 0, 3, .inl siz)), (ro 3, .inl (Y.2 0, 8, .inl z_11t)), (ro 4, .inl (Y.2 0, 8, .inl z_11s)), (ro 5, .inl (Y.2 0, 12, .inl pro)), (ro 6, .inl (Y.2 0, 12, .inl bes)), (ro 7, .inl (Y.2 1, 12, .inl isr)), (ro 8, .inl (Y.2 0, 64, .inl key)), (ro 9, .inl (Y.2 0, 64, .inl lev)), (ro 10, .inl (Y.2 0, 4, .inl kvi)), (ro 11, .inl (Y.2 0, 4, .inl ksz)), (ro 12, .inl (Y.2 0, 4, .inl krt)), (ro 13, .inl (Y.2 1, 4, .inl (upd ala j1 (nI 0)))), (ro 14, .inl (Y.2 0, 4, .inl fol)), (ro 15, .inl (Y.2 0, 4, .inl cts))] _ := hP
              have hD : va_D _ [(ro 0, .inr (6, [.int (nI 0), .ref (ro 1), .ref (ro 2), .int (nI S.1), .ref (ro 3), .ref (ro 4), .ref (ro 5), .int (nI S.2.2.2.1), .ref (ro 6), .ref (ro 7), .int stp, .int efr, .int esz, .int etr, .ref (ro 8), .ref (ro 9), .ref (ro 10), .ref (ro 11), .ref (ro 12), .ref (ro 13), .ref (ro 14), .ref (ro 15)])), (ro 1, .inl (Y.2 0, 300, .inl val)), (ro 2, .inl (Y.2 0, 3, .inl siz)), (ro 3, .inl (Y.2 0, 8, .inl z_11t)), (ro 4, .inl (Y.2 0, 8, .inl z_11s)), (ro 5, .inl (Y.2 0, 12, .inl pro)), (ro 6, .inl (Y.2 0, 12, .inl bes)), (ro 7, .inl (Y.2 1, 12, .inl isr)), (ro 8, .inl (Y.2 0, 64, .inl key)), (ro 9, .inl (Y.2 0, 64, .inl lev)), (ro 10, .inl (Y.2 0, 4, .inl kvi)), (ro 11, .inl (Y.2 0, 4, .inl ksz)), (ro 12, .inl (Y.2 0, 4, .inl krt)), (ro 13, .inl (Y.2 1, 4, .inl (upd ala j1 (nI 0)))), (ro 14, .inl (Y.2 0, 4, .inl fol)), (ro 15, .inl (Y.2 0, 4, .inl cts))] := hD
              refine lv_aload_n hx hb dX6_gossip_148 rfl (lv_at hl 3 rfl) ?_
              refine va_get (D := Y.1) (ci := 6) (v := .ref (ro 13)) (C := RX6) (T := TX6) (N := 22) hx hb hts inX6 hown hK hP 0 rfl rfl 19 (by decide) (hts _ tw_3_174) (fun _ h9 => h9) rfl dX6_gossip_149 ?_
              refine lv_iload_n hx hb dX6_gossip_152 rfl (lv_at hl 5 rfl) ?_
              refine lv_aload_n hx hb dX6_gossip_153 rfl (lv_at hl 3 rfl) ?_
              refine va_get (D := Y.1) (ci := 6) (v := .ref (ro 13)) (C := RX6) (T := TX6) (N := 22) hx hb hts inX6 hown hK hP 0 rfl rfl 19 (by decide) (hts _ tw_3_174) (fun _ h9 => h9) rfl dX6_gossip_154 ?_
              refine lv_iload_n hx hb dX6_gossip_157 rfl (lv_at hl 5 rfl) ?_
              refine th_zald hx hb hK hP 13 rfl (j := j2) (by omega) (by omega) dX6_gossip_158 ?_
              refine th_ti (show (upd ala j1 (nI 0)) j2 = ala j2 from pk_un (by omega)) ?_
              rcases (hv.2.2.2.2.2 j2 j2b).2.2.2 with hb9 | hb9
              · have hb9z : ala j2 = nI 0 := (hv.2.2.2.2.2 j2 j2b).1.2.2.1.trans hb9
                refine th_ti (show ala j2 = nI 0 from hb9z) ?_
                refine th_zne (tgt := 167) hx hb dX6_gossip_159 (by decide) (by omega) (fun c_24 => by exfalso; omega) (fun c_24 => ?_)
                refine lv_iload hx hb dX6_gossip_162 (lv_at hl 0 rfl) ?_
                refine th_zne (tgt := 171) hx hb dX6_gossip_164 (by decide) (by omega) (fun c_25 => ?_) (fun c_25 => by exfalso; omega)
                refine lv_iconst (v := nI 0) hx hb dX6_gossip_171 (by decide) ?_
                refine th_zast hx hb hK hP hD hS 13 rfl (j := j2) (by omega) (by omega) (by first | exact Or.inl rfl | exact Or.inr rfl | assumption) dX6_gossip_172 (fun H locs hP hD hS => ?_)
                have hP : va_P Y.1 vwCl [(ro 0, .inr (6, [.int (nI 0), .ref (ro 1), .ref (ro 2), .int (nI S.1), .ref (ro 3), .ref (ro 4), .ref (ro 5), .int (nI S.2.2.2.1), .ref (ro 6), .ref (ro 7), .int stp, .int efr, .int esz, .int etr, .ref (ro 8), .ref (ro 9), .ref (ro 10), .ref (ro 11), .ref (ro 12), .ref (ro 13), .ref (ro 14), .ref (ro 15)])), (ro 1, .inl (Y.2 0, 300, .inl val)), (ro 2, .inl (Y.2 0, 3, .inl siz)), (ro 3, .inl (Y.2 0, 8, .inl z_11t)), (ro 4, .inl (Y.2 0, 8, .inl z_11s)), (ro 5, .inl (Y.2 0, 12, .inl pro)), (ro 6, .inl (Y.2 0, 12, .inl bes)), (ro 7, .inl (Y.2 1, 12, .inl isr)), (ro 8, .inl (Y.2 0, 64, .inl key)), (ro 9, .inl (Y.2 0, 64, .inl lev)), (ro 10, .inl (Y.2 0, 4, .inl kvi)), (ro 11, .inl (Y.2 0, 4, .inl ksz)), (ro 12, .inl (Y.2 0, 4, .inl krt)), (ro 13, .inl (Y.2 1, 4, .inl (upd (upd ala j1 (nI 0)) j2 (nI 0)))), (ro 14, .inl (Y.2 0, 4, .inl fol)), (ro 15, .inl (Y.2 0, 4, .inl cts))] _ := hP
                have hD : va_D _ [(ro 0, .inr (6, [.int (nI 0), .ref (ro 1), .ref (ro 2), .int (nI S.1), .ref (ro 3), .ref (ro 4), .ref (ro 5), .int (nI S.2.2.2.1), .ref (ro 6), .ref (ro 7), .int stp, .int efr, .int esz, .int etr, .ref (ro 8), .ref (ro 9), .ref (ro 10), .ref (ro 11), .ref (ro 12), .ref (ro 13), .ref (ro 14), .ref (ro 15)])), (ro 1, .inl (Y.2 0, 300, .inl val)), (ro 2, .inl (Y.2 0, 3, .inl siz)), (ro 3, .inl (Y.2 0, 8, .inl z_11t)), (ro 4, .inl (Y.2 0, 8, .inl z_11s)), (ro 5, .inl (Y.2 0, 12, .inl pro)), (ro 6, .inl (Y.2 0, 12, .inl bes)), (ro 7, .inl (Y.2 1, 12, .inl isr)), (ro 8, .inl (Y.2 0, 64, .inl key)), (ro 9, .inl (Y.2 0, 64, .inl lev)), (ro 10, .inl (Y.2 0, 4, .inl kvi)), (ro 11, .inl (Y.2 0, 4, .inl ksz)), (ro 12, .inl (Y.2 0, 4, .inl krt)), (ro 13, .inl (Y.2 1, 4, .inl (upd (upd ala j1 (nI 0)) j2 (nI 0)))), (ro 14, .inl (Y.2 0, 4, .inl fol)), (ro 15, .inl (Y.2 0, 4, .inl cts))] := hD
                refine lv_iload hx hb dX6_gossip_173 (lv_at hl 0 rfl) ?_
                refine th_zret hx hb hr hlk hQ hS dX6_gossip_175 (Nat.le_of_ble_eq_true rfl) (Nat.le_of_ble_eq_true rfl) (by first | exact Or.inl rfl | exact Or.inr rfl | assumption | exact th_b01 _) ?_
                show th_ro Y ro (_) _ _
                unfold sp_gossip
                simp only [zj1, zj2]
                rw [th_ifT ⟨q1, q2⟩]
                rw [th_ifT q3]
                exact th_roT (rfl) (th_rgI hP (th_RvA hv (fun a9 => (th_updS ((pk_un (by omega)).trans hb9z).symm a9).trans (th_updS ha9z.symm a9))))
                
              · have hb9z : ala j2 = nI 1 := (hv.2.2.2.2.2 j2 j2b).1.2.2.1.trans hb9
                refine th_ti (show ala j2 = nI 1 from hb9z) ?_
                refine th_zne (tgt := 167) hx hb dX6_gossip_159 (by decide) (by omega) (fun c_26 => ?_) (fun c_26 => by exfalso; omega)
                refine lv_iconst (v := nI 1) hx hb dX6_gossip_167 (by decide) ?_
                refine lv_goto (tgt := 172) hx hb dX6_gossip_168 (by decide) ?_
                refine th_zast hx hb hK hP hD hS 13 rfl (j := j2) (by omega) (by omega) (by first | exact Or.inl rfl | exact Or.inr rfl | assumption) dX6_gossip_172 (fun H locs hP hD hS => ?_)
                have hP : va_P Y.1 vwCl [(ro 0, .inr (6, [.int (nI 0), .ref (ro 1), .ref (ro 2), .int (nI S.1), .ref (ro 3), .ref (ro 4), .ref (ro 5), .int (nI S.2.2.2.1), .ref (ro 6), .ref (ro 7), .int stp, .int efr, .int esz, .int etr, .ref (ro 8), .ref (ro 9), .ref (ro 10), .ref (ro 11), .ref (ro 12), .ref (ro 13), .ref (ro 14), .ref (ro 15)])), (ro 1, .inl (Y.2 0, 300, .inl val)), (ro 2, .inl (Y.2 0, 3, .inl siz)), (ro 3, .inl (Y.2 0, 8, .inl z_11t)), (ro 4, .inl (Y.2 0, 8, .inl z_11s)), (ro 5, .inl (Y.2 0, 12, .inl pro)), (ro 6, .inl (Y.2 0, 12, .inl bes)), (ro 7, .inl (Y.2 1, 12, .inl isr)), (ro 8, .inl (Y.2 0, 64, .inl key)), (ro 9, .inl (Y.2 0, 64, .inl lev)), (ro 10, .inl (Y.2 0, 4, .inl kvi)), (ro 11, .inl (Y.2 0, 4, .inl ksz)), (ro 12, .inl (Y.2 0, 4, .inl krt)), (ro 13, .inl (Y.2 1, 4, .inl (upd (upd ala j1 (nI 0)) j2 (nI 1)))), (ro 14, .inl (Y.2 0, 4, .inl fol)), (ro 15, .inl (Y.2 0, 4, .inl cts))] _ := hP
                have hD : va_D _ [(ro 0, .inr (6, [.int (nI 0), .ref (ro 1), .ref (ro 2), .int (nI S.1), .ref (ro 3), .ref (ro 4), .ref (ro 5), .int (nI S.2.2.2.1), .ref (ro 6), .ref (ro 7), .int stp, .int efr, .int esz, .int etr, .ref (ro 8), .ref (ro 9), .ref (ro 10), .ref (ro 11), .ref (ro 12), .ref (ro 13), .ref (ro 14), .ref (ro 15)])), (ro 1, .inl (Y.2 0, 300, .inl val)), (ro 2, .inl (Y.2 0, 3, .inl siz)), (ro 3, .inl (Y.2 0, 8, .inl z_11t)), (ro 4, .inl (Y.2 0, 8, .inl z_11s)), (ro 5, .inl (Y.2 0, 12, .inl pro)), (ro 6, .inl (Y.2 0, 12, .inl bes)), (ro 7, .inl (Y.2 1, 12, .inl isr)), (ro 8, .inl (Y.2 0, 64, .inl key)), (ro 9, .inl (Y.2 0, 64, .inl lev)), (ro 10, .inl (Y.2 0, 4, .inl kvi)), (ro 11, .inl (Y.2 0, 4, .inl ksz)), (ro 12, .inl (Y.2 0, 4, .inl krt)), (ro 13, .inl (Y.2 1, 4, .inl (upd (upd ala j1 (nI 0)) j2 (nI 1)))), (ro 14, .inl (Y.2 0, 4, .inl fol)), (ro 15, .inl (Y.2 0, 4, .inl cts))] := hD
                refine lv_iload hx hb dX6_gossip_173 (lv_at hl 0 rfl) ?_
                refine th_zret hx hb hr hlk hQ hS dX6_gossip_175 (Nat.le_of_ble_eq_true rfl) (Nat.le_of_ble_eq_true rfl) (by first | exact Or.inl rfl | exact Or.inr rfl | assumption | exact th_b01 _) ?_
                show th_ro Y ro (_) _ _
                unfold sp_gossip
                simp only [zj1, zj2]
                rw [th_ifT ⟨q1, q2⟩]
                rw [th_ifT q3]
                exact th_roT (rfl) (th_rgI hP (th_RvA hv (fun a9 => (th_updS ((pk_un (by omega)).trans hb9z).symm a9).trans (th_updS ha9z.symm a9))))
                
            · have ha9z : ala j1 = nI 1 := (hv.2.2.2.2.2 j1 j1b).1.2.2.1.trans ha9
              refine th_ti (show ala j1 = nI 1 from ha9z) ?_
              refine th_zne (tgt := 142) hx hb dX6_gossip_134 (by decide) (by omega) (fun c_27 => ?_) (fun c_27 => by exfalso; omega)
              refine lv_iconst (v := nI 1) hx hb dX6_gossip_142 (by decide) ?_
              refine lv_goto (tgt := 147) hx hb dX6_gossip_143 (by decide) ?_
              refine th_zast hx hb hK hP hD hS 13 rfl (j := j1) (by omega) (by omega) (by first | exact Or.inl rfl | exact Or.inr rfl | assumption) dX6_gossip_147 (fun H locs hP hD hS => ?_)
              have hP : va_P Y.1 vwCl [(ro 0, .inr (6, [.int (nI 0), .ref (ro 1), .ref (ro 2), .int (nI S.1), .ref (ro 3), .ref (ro 4), .ref (ro 5), .int (nI S.2.2.2.1), .ref (ro 6), .ref (ro 7), .int stp, .int efr, .int esz, .int etr, .ref (ro 8), .ref (ro 9), .ref (ro 10), .ref (ro 11), .ref (ro 12), .ref (ro 13), .ref (ro 14), .ref (ro 15)])), (ro 1, .inl (Y.2 0, 300, .inl val)), (ro 2, .inl (Y.2 0, 3, .inl siz)), (ro 3, .inl (Y.2 0, 8, .inl z_11t)), (ro 4, .inl (Y.2 0, 8, .inl z_11s)), (ro 5, .inl (Y.2 0, 12, .inl pro)), (ro 6, .inl (Y.2 0, 12, .inl bes)), (ro 7, .inl (Y.2 1, 12, .inl isr)), (ro 8, .inl (Y.2 0, 64, .inl key)), (ro 9, .inl (Y.2 0, 64, .inl lev)), (ro 10, .inl (Y.2 0, 4, .inl kvi)), (ro 11, .inl (Y.2 0, 4, .inl ksz)), (ro 12, .inl (Y.2 0, 4, .inl krt)), (ro 13, .inl (Y.2 1, 4, .inl (upd ala j1 (nI 1)))), (ro 14, .inl (Y.2 0, 4, .inl fol)), (ro 15, .inl (Y.2 0, 4, .inl cts))] _ := hP
              have hD : va_D _ [(ro 0, .inr (6, [.int (nI 0), .ref (ro 1), .ref (ro 2), .int (nI S.1), .ref (ro 3), .ref (ro 4), .ref (ro 5), .int (nI S.2.2.2.1), .ref (ro 6), .ref (ro 7), .int stp, .int efr, .int esz, .int etr, .ref (ro 8), .ref (ro 9), .ref (ro 10), .ref (ro 11), .ref (ro 12), .ref (ro 13), .ref (ro 14), .ref (ro 15)])), (ro 1, .inl (Y.2 0, 300, .inl val)), (ro 2, .inl (Y.2 0, 3, .inl siz)), (ro 3, .inl (Y.2 0, 8, .inl z_11t)), (ro 4, .inl (Y.2 0, 8, .inl z_11s)), (ro 5, .inl (Y.2 0, 12, .inl pro)), (ro 6, .inl (Y.2 0, 12, .inl bes)), (ro 7, .inl (Y.2 1, 12, .inl isr)), (ro 8, .inl (Y.2 0, 64, .inl key)), (ro 9, .inl (Y.2 0, 64, .inl lev)), (ro 10, .inl (Y.2 0, 4, .inl kvi)), (ro 11, .inl (Y.2 0, 4, .inl ksz)), (ro 12, .inl (Y.2 0, 4, .inl krt)), (ro 13, .inl (Y.2 1, 4, .inl (upd ala j1 (nI 1)))), (ro 14, .inl (Y.2 0, 4, .inl fol)), (ro 15, .inl (Y.2 0, 4, .inl cts))] := hD
              refine lv_aload_n hx hb dX6_gossip_148 rfl (lv_at hl 3 rfl) ?_
              refine va_get (D := Y.1) (ci := 6) (v := .ref (ro 13)) (C := RX6) (T := TX6) (N := 22) hx hb hts inX6 hown hK hP 0 rfl rfl 19 (by decide) (hts _ tw_3_174) (fun _ h9 => h9) rfl dX6_gossip_149 ?_
              refine lv_iload_n hx hb dX6_gossip_152 rfl (lv_at hl 5 rfl) ?_
              refine lv_aload_n hx hb dX6_gossip_153 rfl (lv_at hl 3 rfl) ?_
              refine va_get (D := Y.1) (ci := 6) (v := .ref (ro 13)) (C := RX6) (T := TX6) (N := 22) hx hb hts inX6 hown hK hP 0 rfl rfl 19 (by decide) (hts _ tw_3_174) (fun _ h9 => h9) rfl dX6_gossip_154 ?_
              refine lv_iload_n hx hb dX6_gossip_157 rfl (lv_at hl 5 rfl) ?_
              refine th_zald hx hb hK hP 13 rfl (j := j2) (by omega) (by omega) dX6_gossip_158 ?_
              refine th_ti (show (upd ala j1 (nI 1)) j2 = ala j2 from pk_un (by omega)) ?_
              rcases (hv.2.2.2.2.2 j2 j2b).2.2.2 with hb9 | hb9
              · have hb9z : ala j2 = nI 0 := (hv.2.2.2.2.2 j2 j2b).1.2.2.1.trans hb9
                refine th_ti (show ala j2 = nI 0 from hb9z) ?_
                refine th_zne (tgt := 167) hx hb dX6_gossip_159 (by decide) (by omega) (fun c_28 => by exfalso; omega) (fun c_28 => ?_)
                refine lv_iload hx hb dX6_gossip_162 (lv_at hl 0 rfl) ?_
                refine th_zne (tgt := 171) hx hb dX6_gossip_164 (by decide) (by omega) (fun c_29 => ?_) (fun c_29 => by exfalso; omega)
                refine lv_iconst (v := nI 0) hx hb dX6_gossip_171 (by decide) ?_
                refine th_zast hx hb hK hP hD hS 13 rfl (j := j2) (by omega) (by omega) (by first | exact Or.inl rfl | exact Or.inr rfl | assumption) dX6_gossip_172 (fun H locs hP hD hS => ?_)
                have hP : va_P Y.1 vwCl [(ro 0, .inr (6, [.int (nI 0), .ref (ro 1), .ref (ro 2), .int (nI S.1), .ref (ro 3), .ref (ro 4), .ref (ro 5), .int (nI S.2.2.2.1), .ref (ro 6), .ref (ro 7), .int stp, .int efr, .int esz, .int etr, .ref (ro 8), .ref (ro 9), .ref (ro 10), .ref (ro 11), .ref (ro 12), .ref (ro 13), .ref (ro 14), .ref (ro 15)])), (ro 1, .inl (Y.2 0, 300, .inl val)), (ro 2, .inl (Y.2 0, 3, .inl siz)), (ro 3, .inl (Y.2 0, 8, .inl z_11t)), (ro 4, .inl (Y.2 0, 8, .inl z_11s)), (ro 5, .inl (Y.2 0, 12, .inl pro)), (ro 6, .inl (Y.2 0, 12, .inl bes)), (ro 7, .inl (Y.2 1, 12, .inl isr)), (ro 8, .inl (Y.2 0, 64, .inl key)), (ro 9, .inl (Y.2 0, 64, .inl lev)), (ro 10, .inl (Y.2 0, 4, .inl kvi)), (ro 11, .inl (Y.2 0, 4, .inl ksz)), (ro 12, .inl (Y.2 0, 4, .inl krt)), (ro 13, .inl (Y.2 1, 4, .inl (upd (upd ala j1 (nI 1)) j2 (nI 0)))), (ro 14, .inl (Y.2 0, 4, .inl fol)), (ro 15, .inl (Y.2 0, 4, .inl cts))] _ := hP
                have hD : va_D _ [(ro 0, .inr (6, [.int (nI 0), .ref (ro 1), .ref (ro 2), .int (nI S.1), .ref (ro 3), .ref (ro 4), .ref (ro 5), .int (nI S.2.2.2.1), .ref (ro 6), .ref (ro 7), .int stp, .int efr, .int esz, .int etr, .ref (ro 8), .ref (ro 9), .ref (ro 10), .ref (ro 11), .ref (ro 12), .ref (ro 13), .ref (ro 14), .ref (ro 15)])), (ro 1, .inl (Y.2 0, 300, .inl val)), (ro 2, .inl (Y.2 0, 3, .inl siz)), (ro 3, .inl (Y.2 0, 8, .inl z_11t)), (ro 4, .inl (Y.2 0, 8, .inl z_11s)), (ro 5, .inl (Y.2 0, 12, .inl pro)), (ro 6, .inl (Y.2 0, 12, .inl bes)), (ro 7, .inl (Y.2 1, 12, .inl isr)), (ro 8, .inl (Y.2 0, 64, .inl key)), (ro 9, .inl (Y.2 0, 64, .inl lev)), (ro 10, .inl (Y.2 0, 4, .inl kvi)), (ro 11, .inl (Y.2 0, 4, .inl ksz)), (ro 12, .inl (Y.2 0, 4, .inl krt)), (ro 13, .inl (Y.2 1, 4, .inl (upd (upd ala j1 (nI 1)) j2 (nI 0)))), (ro 14, .inl (Y.2 0, 4, .inl fol)), (ro 15, .inl (Y.2 0, 4, .inl cts))] := hD
                refine lv_iload hx hb dX6_gossip_173 (lv_at hl 0 rfl) ?_
                refine th_zret hx hb hr hlk hQ hS dX6_gossip_175 (Nat.le_of_ble_eq_true rfl) (Nat.le_of_ble_eq_true rfl) (by first | exact Or.inl rfl | exact Or.inr rfl | assumption | exact th_b01 _) ?_
                show th_ro Y ro (_) _ _
                unfold sp_gossip
                simp only [zj1, zj2]
                rw [th_ifT ⟨q1, q2⟩]
                rw [th_ifT q3]
                exact th_roT (rfl) (th_rgI hP (th_RvA hv (fun a9 => (th_updS ((pk_un (by omega)).trans hb9z).symm a9).trans (th_updS ha9z.symm a9))))
                
              · have hb9z : ala j2 = nI 1 := (hv.2.2.2.2.2 j2 j2b).1.2.2.1.trans hb9
                refine th_ti (show ala j2 = nI 1 from hb9z) ?_
                refine th_zne (tgt := 167) hx hb dX6_gossip_159 (by decide) (by omega) (fun c_30 => ?_) (fun c_30 => by exfalso; omega)
                refine lv_iconst (v := nI 1) hx hb dX6_gossip_167 (by decide) ?_
                refine lv_goto (tgt := 172) hx hb dX6_gossip_168 (by decide) ?_
                refine th_zast hx hb hK hP hD hS 13 rfl (j := j2) (by omega) (by omega) (by first | exact Or.inl rfl | exact Or.inr rfl | assumption) dX6_gossip_172 (fun H locs hP hD hS => ?_)
                have hP : va_P Y.1 vwCl [(ro 0, .inr (6, [.int (nI 0), .ref (ro 1), .ref (ro 2), .int (nI S.1), .ref (ro 3), .ref (ro 4), .ref (ro 5), .int (nI S.2.2.2.1), .ref (ro 6), .ref (ro 7), .int stp, .int efr, .int esz, .int etr, .ref (ro 8), .ref (ro 9), .ref (ro 10), .ref (ro 11), .ref (ro 12), .ref (ro 13), .ref (ro 14), .ref (ro 15)])), (ro 1, .inl (Y.2 0, 300, .inl val)), (ro 2, .inl (Y.2 0, 3, .inl siz)), (ro 3, .inl (Y.2 0, 8, .inl z_11t)), (ro 4, .inl (Y.2 0, 8, .inl z_11s)), (ro 5, .inl (Y.2 0, 12, .inl pro)), (ro 6, .inl (Y.2 0, 12, .inl bes)), (ro 7, .inl (Y.2 1, 12, .inl isr)), (ro 8, .inl (Y.2 0, 64, .inl key)), (ro 9, .inl (Y.2 0, 64, .inl lev)), (ro 10, .inl (Y.2 0, 4, .inl kvi)), (ro 11, .inl (Y.2 0, 4, .inl ksz)), (ro 12, .inl (Y.2 0, 4, .inl krt)), (ro 13, .inl (Y.2 1, 4, .inl (upd (upd ala j1 (nI 1)) j2 (nI 1)))), (ro 14, .inl (Y.2 0, 4, .inl fol)), (ro 15, .inl (Y.2 0, 4, .inl cts))] _ := hP
                have hD : va_D _ [(ro 0, .inr (6, [.int (nI 0), .ref (ro 1), .ref (ro 2), .int (nI S.1), .ref (ro 3), .ref (ro 4), .ref (ro 5), .int (nI S.2.2.2.1), .ref (ro 6), .ref (ro 7), .int stp, .int efr, .int esz, .int etr, .ref (ro 8), .ref (ro 9), .ref (ro 10), .ref (ro 11), .ref (ro 12), .ref (ro 13), .ref (ro 14), .ref (ro 15)])), (ro 1, .inl (Y.2 0, 300, .inl val)), (ro 2, .inl (Y.2 0, 3, .inl siz)), (ro 3, .inl (Y.2 0, 8, .inl z_11t)), (ro 4, .inl (Y.2 0, 8, .inl z_11s)), (ro 5, .inl (Y.2 0, 12, .inl pro)), (ro 6, .inl (Y.2 0, 12, .inl bes)), (ro 7, .inl (Y.2 1, 12, .inl isr)), (ro 8, .inl (Y.2 0, 64, .inl key)), (ro 9, .inl (Y.2 0, 64, .inl lev)), (ro 10, .inl (Y.2 0, 4, .inl kvi)), (ro 11, .inl (Y.2 0, 4, .inl ksz)), (ro 12, .inl (Y.2 0, 4, .inl krt)), (ro 13, .inl (Y.2 1, 4, .inl (upd (upd ala j1 (nI 1)) j2 (nI 1)))), (ro 14, .inl (Y.2 0, 4, .inl fol)), (ro 15, .inl (Y.2 0, 4, .inl cts))] := hD
                refine lv_iload hx hb dX6_gossip_173 (lv_at hl 0 rfl) ?_
                refine th_zret hx hb hr hlk hQ hS dX6_gossip_175 (Nat.le_of_ble_eq_true rfl) (Nat.le_of_ble_eq_true rfl) (by first | exact Or.inl rfl | exact Or.inr rfl | assumption | exact th_b01 _) ?_
                show th_ro Y ro (_) _ _
                unfold sp_gossip
                simp only [zj1, zj2]
                rw [th_ifT ⟨q1, q2⟩]
                rw [th_ifT q3]
                exact th_roT (rfl) (th_rgI hP (th_RvA hv (fun a9 => (th_updS ((pk_un (by omega)).trans hb9z).symm a9).trans (th_updS ha9z.symm a9))))
                
          refine lv_iload_n hx hb dX6_gossip_70 rfl (lv_at hl 2 rfl) ?_
          refine lv_goto (tgt := 75) hx hb dX6_gossip_71 (by decide) ?_
          refine lv_istore_n (lv' := [(3, .int (nI j2)), (0, .ref (ro 0)), (1, .int (nI j1)), (2, .int (nI j2))]) hx hb dX6_gossip_75 rfl hl (by decide) rfl (fun ls hl => ?_)
          refine lv_iload_n hx hb dX6_gossip_76 rfl (lv_at hl 0 rfl) ?_
          refine lv_iload_n hx hb dX6_gossip_77 rfl (lv_at hl 2 rfl) ?_
          refine th_ine (tgt := 85) hx hb dX6_gossip_78 (by decide) (by omega) (by omega) (fun c_31 => ?_) (fun c_31 => by exfalso; omega)
          refine lv_iload_n hx hb dX6_gossip_85 rfl (lv_at hl 2 rfl) ?_
          refine lv_istore (lv' := [(4, .int (nI j1)), (3, .int (nI j2)), (0, .ref (ro 0)), (1, .int (nI j1)), (2, .int (nI j2))]) hx hb dX6_gossip_86 hl (by decide) rfl (fun ls hl => ?_)
          refine lv_aload_n hx hb dX6_gossip_88 rfl (lv_at hl 2 rfl) ?_
          refine lv_aload_n hx hb dX6_gossip_89 rfl (lv_at hl 2 rfl) ?_
          refine va_get (D := Y.1) (ci := 6) (v := .ref (ro 10)) (C := RX6) (T := TX6) (N := 22) hx hb hts inX6 hown hK hP 0 rfl rfl 16 (by decide) (hts _ tw_3_171) (fun _ h9 => h9) rfl dX6_gossip_90 ?_
          refine lv_iload_n hx hb dX6_gossip_93 rfl (lv_at hl 1 rfl) ?_
          refine th_iald hx hb hK hP 10 rfl (j := j2) (by omega) (by omega) dX6_gossip_94 ?_
          refine th_ti (show kvi j2 = nI jm from (hv.2.2.2.2.2 j2 j2b).2.1 jm hKm) ?_
          refine lv_iconst (v := nI 0) hx hb dX6_gossip_95 (by decide) ?_
          refine lv_aload_n hx hb dX6_gossip_96 rfl (lv_at hl 2 rfl) ?_
          refine va_get (D := Y.1) (ci := 6) (v := .ref (ro 11)) (C := RX6) (T := TX6) (N := 22) hx hb hts inX6 hown hK hP 0 rfl rfl 17 (by decide) (hts _ tw_3_172) (fun _ h9 => h9) rfl dX6_gossip_97 ?_
          refine lv_iload hx hb dX6_gossip_100 (lv_at hl 0 rfl) ?_
          refine th_iald hx hb hK hP 11 rfl (j := j1) (by omega) (by omega) dX6_gossip_102 ?_
          refine th_ti (show ksz j1 = nI kk9 from (hv.2.2.2.2.2 j1 j1b).1.1.trans hW0) ?_
          refine th_callV hx hb hml hown hts ⟨hK, hN⟩ hl hS (hP 0 _ rfl) rfl (rest := []) (c_X6_rootOf l Y _ ro (nI 0) stp efr esz etr S.1 S.2.2.2.1 val tre spa (hP.sub (ws' := [(ro 0, .inr (6, [.int (nI 0), .ref (ro 1), .ref (ro 2), .int (nI S.1), .ref (ro 3), .ref (ro 4), .ref (ro 5), .int (nI S.2.2.2.1), .ref (ro 6), .ref (ro 7), .int stp, .int efr, .int esz, .int etr, .ref (ro 8), .ref (ro 9), .ref (ro 10), .ref (ro 11), .ref (ro 12), .ref (ro 13), .ref (ro 14), .ref (ro 15)])), (ro 1, .inl (Y.2 0, 300, .inl val)), (ro 3, .inl (Y.2 0, 8, .inl tre)), (ro 4, .inl (Y.2 0, 8, .inl spa))]) [0, 1, 3, 4] rfl) ((hD.sub (ws' := [(ro 0, .inr (6, [.int (nI 0), .ref (ro 1), .ref (ro 2), .int (nI S.1), .ref (ro 3), .ref (ro 4), .ref (ro 5), .int (nI S.2.2.2.1), .ref (ro 6), .ref (ro 7), .int stp, .int efr, .int esz, .int etr, .ref (ro 8), .ref (ro 9), .ref (ro 10), .ref (ro 11), .ref (ro 12), .ref (ro 13), .ref (ro 14), .ref (ro 15)])), (ro 1, .inl (Y.2 0, 300, .inl val)), (ro 3, .inl (Y.2 0, 8, .inl tre)), (ro 4, .inl (Y.2 0, 8, .inl spa))]) [0, 1, 3, 4] (by decide) rfl).weaken (fun _ _ _ _ => trivial)) jm 0 kk9 (by omega) (by omega)) ok_X6_rootOf tw_4_33 dX6_gossip_103 rfl rfl (Nat.le_of_ble_eq_true rfl) ⟨Nat.le_of_ble_eq_true rfl, Nat.le_of_ble_eq_true rfl⟩ ⟨Nat.le_of_ble_eq_true rfl, Nat.le_of_ble_eq_true rfl⟩ (th_subL [0, 1, 3, 4] rfl) (th_ki (fun rz9 H locs hp hsm hS => ?_))
          obtain ⟨hrz, z_32t, z_32s, hPc⟩ := hp
          have hP : va_P Y.1 vwCl [(ro 0, .inr (6, [.int (nI 0), .ref (ro 1), .ref (ro 2), .int (nI S.1), .ref (ro 3), .ref (ro 4), .ref (ro 5), .int (nI S.2.2.2.1), .ref (ro 6), .ref (ro 7), .int stp, .int efr, .int esz, .int etr, .ref (ro 8), .ref (ro 9), .ref (ro 10), .ref (ro 11), .ref (ro 12), .ref (ro 13), .ref (ro 14), .ref (ro 15)])), (ro 1, .inl (Y.2 0, 300, .inl val)), (ro 2, .inl (Y.2 0, 3, .inl siz)), (ro 3, .inl (Y.2 0, 8, .inl z_32t)), (ro 4, .inl (Y.2 0, 8, .inl z_32s)), (ro 5, .inl (Y.2 0, 12, .inl pro)), (ro 6, .inl (Y.2 0, 12, .inl bes)), (ro 7, .inl (Y.2 1, 12, .inl isr)), (ro 8, .inl (Y.2 0, 64, .inl key)), (ro 9, .inl (Y.2 0, 64, .inl lev)), (ro 10, .inl (Y.2 0, 4, .inl kvi)), (ro 11, .inl (Y.2 0, 4, .inl ksz)), (ro 12, .inl (Y.2 0, 4, .inl krt)), (ro 13, .inl (Y.2 1, 4, .inl ala)), (ro 14, .inl (Y.2 0, 4, .inl fol)), (ro 15, .inl (Y.2 0, 4, .inl cts))] _ := (th_join (wr := [(ro 2, .inl (Y.2 0, 3, .inl siz)), (ro 5, .inl (Y.2 0, 12, .inl pro)), (ro 6, .inl (Y.2 0, 12, .inl bes)), (ro 7, .inl (Y.2 1, 12, .inl isr)), (ro 8, .inl (Y.2 0, 64, .inl key)), (ro 9, .inl (Y.2 0, 64, .inl lev)), (ro 10, .inl (Y.2 0, 4, .inl kvi)), (ro 11, .inl (Y.2 0, 4, .inl ksz)), (ro 12, .inl (Y.2 0, 4, .inl krt)), (ro 13, .inl (Y.2 1, 4, .inl ala)), (ro 14, .inl (Y.2 0, 4, .inl fol)), (ro 15, .inl (Y.2 0, 4, .inl cts))]) hP hD [2, 5, 6, 7, 8, 9, 10, 11, 12, 13, 14, 15] [0, 1, 3, 4] rfl rfl (by decide) hsm hPc).sub [12, 13, 0, 14, 15, 1, 2, 3, 4, 5, 6, 7, 8, 9, 10, 11] rfl
          have hD : va_D _ [(ro 0, .inr (6, [.int (nI 0), .ref (ro 1), .ref (ro 2), .int (nI S.1), .ref (ro 3), .ref (ro 4), .ref (ro 5), .int (nI S.2.2.2.1), .ref (ro 6), .ref (ro 7), .int stp, .int efr, .int esz, .int etr, .ref (ro 8), .ref (ro 9), .ref (ro 10), .ref (ro 11), .ref (ro 12), .ref (ro 13), .ref (ro 14), .ref (ro 15)])), (ro 1, .inl (Y.2 0, 300, .inl val)), (ro 2, .inl (Y.2 0, 3, .inl siz)), (ro 3, .inl (Y.2 0, 8, .inl z_32t)), (ro 4, .inl (Y.2 0, 8, .inl z_32s)), (ro 5, .inl (Y.2 0, 12, .inl pro)), (ro 6, .inl (Y.2 0, 12, .inl bes)), (ro 7, .inl (Y.2 1, 12, .inl isr)), (ro 8, .inl (Y.2 0, 64, .inl key)), (ro 9, .inl (Y.2 0, 64, .inl lev)), (ro 10, .inl (Y.2 0, 4, .inl kvi)), (ro 11, .inl (Y.2 0, 4, .inl ksz)), (ro 12, .inl (Y.2 0, 4, .inl krt)), (ro 13, .inl (Y.2 1, 4, .inl ala)), (ro 14, .inl (Y.2 0, 4, .inl fol)), (ro 15, .inl (Y.2 0, 4, .inl cts))] := th_Dsame hD rfl
          subst hrz
          refine th_ti (th_rt_c _ _ _ (fun k9 hk9 => (hfjm _ (by omega)).1)) ?_
          refine lv_aload_n hx hb dX6_gossip_106 rfl (lv_at hl 2 rfl) ?_
          refine va_get (D := Y.1) (ci := 6) (v := .ref (ro 12)) (C := RX6) (T := TX6) (N := 22) hx hb hts inX6 hown hK hP 0 rfl rfl 18 (by decide) (hts _ tw_3_173) (fun _ h9 => h9) rfl dX6_gossip_107 ?_
          refine lv_iload hx hb dX6_gossip_110 (lv_at hl 0 rfl) ?_
          refine th_iald hx hb hK hP 12 rfl (j := j1) (by omega) (by omega) dX6_gossip_112 ?_
          refine th_ti (show krt j1 = S.2.2.2.2.2.2.2 j1 1 from (hv.2.2.2.2.2 j1 j1b).1.2.1) ?_
          refine lv_icmp_ne (tgt := 120) hx hb dX6_gossip_113 (by decide) (fun c_33 => ?_) (fun c_33 => ?_)
          · skip
            have q3 : ¬ th_ft S j1 j2 := fun z9 => z9.elim (fun z8 => c_4 z8) (fun z8 => by
              have z7 := z8 jk jm hKs hKm
              rw [hW0, hWm, th_ixN (by omega), th_ixN (by omega)] at z7
              exact c_33 (z7.2 (by omega)))
            have hvA : th_RIv (th_sA S j1) val siz pro key kvi ksz krt (upd ala j1 (nI 1)) fol cts := th_RvW hv j1b (hv.2.2.2.2.2 j1 j1b).2.2.1 (Or.inr rfl) (hv.2.2.2.2.2 j1 j1b).2.1 (hv.2.2.2.2.2 j1 j1b).1.1 (hv.2.2.2.2.2 j1 j1b).1.2.1 pk_us (hv.2.2.2.2.2 j1 j1b).1.2.2.2.1 (hv.2.2.2.2.2 j1 j1b).1.2.2.2.2 (fun a9 h9 => ⟨rfl, rfl, rfl, pk_un h9, rfl, rfl⟩)
            refine lv_iconst (v := nI 0) hx hb dX6_gossip_120 (by decide) ?_
            refine lv_istore (lv' := [(5, .int (nI 0)), (4, .int (nI j1)), (3, .int (nI j2)), (0, .ref (ro 0)), (1, .int (nI j1)), (2, .int (nI j2))]) hx hb dX6_gossip_121 hl (by decide) rfl (fun ls hl => ?_)
            refine lv_aload_n hx hb dX6_gossip_123 rfl (lv_at hl 3 rfl) ?_
            refine va_get (D := Y.1) (ci := 6) (v := .ref (ro 13)) (C := RX6) (T := TX6) (N := 22) hx hb hts inX6 hown hK hP 0 rfl rfl 19 (by decide) (hts _ tw_3_174) (fun _ h9 => h9) rfl dX6_gossip_124 ?_
            refine lv_iload_n hx hb dX6_gossip_127 rfl (lv_at hl 4 rfl) ?_
            refine lv_aload_n hx hb dX6_gossip_128 rfl (lv_at hl 3 rfl) ?_
            refine va_get (D := Y.1) (ci := 6) (v := .ref (ro 13)) (C := RX6) (T := TX6) (N := 22) hx hb hts inX6 hown hK hP 0 rfl rfl 19 (by decide) (hts _ tw_3_174) (fun _ h9 => h9) rfl dX6_gossip_129 ?_
            refine lv_iload_n hx hb dX6_gossip_132 rfl (lv_at hl 4 rfl) ?_
            refine th_zald hx hb hK hP 13 rfl (j := j1) (by omega) (by omega) dX6_gossip_133 ?_
            rcases (hv.2.2.2.2.2 j1 j1b).2.2.2 with ha9 | ha9
            · have ha9z : ala j1 = nI 0 := (hv.2.2.2.2.2 j1 j1b).1.2.2.1.trans ha9
              refine th_ti (show ala j1 = nI 0 from ha9z) ?_
              refine th_zne (tgt := 142) hx hb dX6_gossip_134 (by decide) (by omega) (fun c_34 => by exfalso; omega) (fun c_34 => ?_)
              refine lv_iload hx hb dX6_gossip_137 (lv_at hl 0 rfl) ?_
              refine th_zne (tgt := 146) hx hb dX6_gossip_139 (by decide) (by omega) (fun c_35 => by exfalso; omega) (fun c_35 => ?_)
              refine lv_iconst (v := nI 1) hx hb dX6_gossip_142 (by decide) ?_
              refine lv_goto (tgt := 147) hx hb dX6_gossip_143 (by decide) ?_
              refine th_zast hx hb hK hP hD hS 13 rfl (j := j1) (by omega) (by omega) (by first | exact Or.inl rfl | exact Or.inr rfl | assumption) dX6_gossip_147 (fun H locs hP hD hS => ?_)
              have hP : va_P Y.1 vwCl [(ro 0, .inr (6, [.int (nI 0), .ref (ro 1), .ref (ro 2), .int (nI S.1), .ref (ro 3), .ref (ro 4), .ref (ro 5), .int (nI S.2.2.2.1), .ref (ro 6), .ref (ro 7), .int stp, .int efr, .int esz, .int etr, .ref (ro 8), .ref (ro 9), .ref (ro 10), .ref (ro 11), .ref (ro 12), .ref (ro 13), .ref (ro 14), .ref (ro 15)])), (ro 1, .inl (Y.2 0, 300, .inl val)), (ro 2, .inl (Y.2 0, 3, .inl siz)), (ro 3, .inl (Y.2 0, 8, .inl z_32t)), (ro 4, .inl (Y.2 0, 8, .inl z_32s)), (ro 5, .inl (Y.2 0, 12, .inl pro)), (ro 6, .inl (Y.2 0, 12, .inl bes)), (ro 7, .inl (Y.2 1, 12, .inl isr)), (ro 8, .inl (Y.2 0, 64, .inl key)), (ro 9, .inl (Y.2 0, 64, .inl lev)), (ro 10, .inl (Y.2 0, 4, .inl kvi)), (ro 11, .inl (Y.2 0, 4, .inl ksz)), (ro 12, .inl (Y.2 0, 4, .inl krt)), (ro 13, .inl (Y.2 1, 4, .inl (upd ala j1 (nI 1)))), (ro 14, .inl (Y.2 0, 4, .inl fol)), (ro 15, .inl (Y.2 0, 4, .inl cts))] _ := hP
              have hD : va_D _ [(ro 0, .inr (6, [.int (nI 0), .ref (ro 1), .ref (ro 2), .int (nI S.1), .ref (ro 3), .ref (ro 4), .ref (ro 5), .int (nI S.2.2.2.1), .ref (ro 6), .ref (ro 7), .int stp, .int efr, .int esz, .int etr, .ref (ro 8), .ref (ro 9), .ref (ro 10), .ref (ro 11), .ref (ro 12), .ref (ro 13), .ref (ro 14), .ref (ro 15)])), (ro 1, .inl (Y.2 0, 300, .inl val)), (ro 2, .inl (Y.2 0, 3, .inl siz)), (ro 3, .inl (Y.2 0, 8, .inl z_32t)), (ro 4, .inl (Y.2 0, 8, .inl z_32s)), (ro 5, .inl (Y.2 0, 12, .inl pro)), (ro 6, .inl (Y.2 0, 12, .inl bes)), (ro 7, .inl (Y.2 1, 12, .inl isr)), (ro 8, .inl (Y.2 0, 64, .inl key)), (ro 9, .inl (Y.2 0, 64, .inl lev)), (ro 10, .inl (Y.2 0, 4, .inl kvi)), (ro 11, .inl (Y.2 0, 4, .inl ksz)), (ro 12, .inl (Y.2 0, 4, .inl krt)), (ro 13, .inl (Y.2 1, 4, .inl (upd ala j1 (nI 1)))), (ro 14, .inl (Y.2 0, 4, .inl fol)), (ro 15, .inl (Y.2 0, 4, .inl cts))] := hD
              refine lv_aload_n hx hb dX6_gossip_148 rfl (lv_at hl 3 rfl) ?_
              refine va_get (D := Y.1) (ci := 6) (v := .ref (ro 13)) (C := RX6) (T := TX6) (N := 22) hx hb hts inX6 hown hK hP 0 rfl rfl 19 (by decide) (hts _ tw_3_174) (fun _ h9 => h9) rfl dX6_gossip_149 ?_
              refine lv_iload_n hx hb dX6_gossip_152 rfl (lv_at hl 5 rfl) ?_
              refine lv_aload_n hx hb dX6_gossip_153 rfl (lv_at hl 3 rfl) ?_
              refine va_get (D := Y.1) (ci := 6) (v := .ref (ro 13)) (C := RX6) (T := TX6) (N := 22) hx hb hts inX6 hown hK hP 0 rfl rfl 19 (by decide) (hts _ tw_3_174) (fun _ h9 => h9) rfl dX6_gossip_154 ?_
              refine lv_iload_n hx hb dX6_gossip_157 rfl (lv_at hl 5 rfl) ?_
              refine th_zald hx hb hK hP 13 rfl (j := j2) (by omega) (by omega) dX6_gossip_158 ?_
              refine th_ti (show (upd ala j1 (nI 1)) j2 = ala j2 from pk_un (by omega)) ?_
              rcases (hv.2.2.2.2.2 j2 j2b).2.2.2 with hb9 | hb9
              · have hb9z : ala j2 = nI 0 := (hv.2.2.2.2.2 j2 j2b).1.2.2.1.trans hb9
                refine th_ti (show ala j2 = nI 0 from hb9z) ?_
                refine th_zne (tgt := 167) hx hb dX6_gossip_159 (by decide) (by omega) (fun c_36 => by exfalso; omega) (fun c_36 => ?_)
                refine lv_iload hx hb dX6_gossip_162 (lv_at hl 0 rfl) ?_
                refine th_zne (tgt := 171) hx hb dX6_gossip_164 (by decide) (by omega) (fun c_37 => by exfalso; omega) (fun c_37 => ?_)
                refine lv_iconst (v := nI 1) hx hb dX6_gossip_167 (by decide) ?_
                refine lv_goto (tgt := 172) hx hb dX6_gossip_168 (by decide) ?_
                refine th_zast hx hb hK hP hD hS 13 rfl (j := j2) (by omega) (by omega) (by first | exact Or.inl rfl | exact Or.inr rfl | assumption) dX6_gossip_172 (fun H locs hP hD hS => ?_)
                have hP : va_P Y.1 vwCl [(ro 0, .inr (6, [.int (nI 0), .ref (ro 1), .ref (ro 2), .int (nI S.1), .ref (ro 3), .ref (ro 4), .ref (ro 5), .int (nI S.2.2.2.1), .ref (ro 6), .ref (ro 7), .int stp, .int efr, .int esz, .int etr, .ref (ro 8), .ref (ro 9), .ref (ro 10), .ref (ro 11), .ref (ro 12), .ref (ro 13), .ref (ro 14), .ref (ro 15)])), (ro 1, .inl (Y.2 0, 300, .inl val)), (ro 2, .inl (Y.2 0, 3, .inl siz)), (ro 3, .inl (Y.2 0, 8, .inl z_32t)), (ro 4, .inl (Y.2 0, 8, .inl z_32s)), (ro 5, .inl (Y.2 0, 12, .inl pro)), (ro 6, .inl (Y.2 0, 12, .inl bes)), (ro 7, .inl (Y.2 1, 12, .inl isr)), (ro 8, .inl (Y.2 0, 64, .inl key)), (ro 9, .inl (Y.2 0, 64, .inl lev)), (ro 10, .inl (Y.2 0, 4, .inl kvi)), (ro 11, .inl (Y.2 0, 4, .inl ksz)), (ro 12, .inl (Y.2 0, 4, .inl krt)), (ro 13, .inl (Y.2 1, 4, .inl (upd (upd ala j1 (nI 1)) j2 (nI 1)))), (ro 14, .inl (Y.2 0, 4, .inl fol)), (ro 15, .inl (Y.2 0, 4, .inl cts))] _ := hP
                have hD : va_D _ [(ro 0, .inr (6, [.int (nI 0), .ref (ro 1), .ref (ro 2), .int (nI S.1), .ref (ro 3), .ref (ro 4), .ref (ro 5), .int (nI S.2.2.2.1), .ref (ro 6), .ref (ro 7), .int stp, .int efr, .int esz, .int etr, .ref (ro 8), .ref (ro 9), .ref (ro 10), .ref (ro 11), .ref (ro 12), .ref (ro 13), .ref (ro 14), .ref (ro 15)])), (ro 1, .inl (Y.2 0, 300, .inl val)), (ro 2, .inl (Y.2 0, 3, .inl siz)), (ro 3, .inl (Y.2 0, 8, .inl z_32t)), (ro 4, .inl (Y.2 0, 8, .inl z_32s)), (ro 5, .inl (Y.2 0, 12, .inl pro)), (ro 6, .inl (Y.2 0, 12, .inl bes)), (ro 7, .inl (Y.2 1, 12, .inl isr)), (ro 8, .inl (Y.2 0, 64, .inl key)), (ro 9, .inl (Y.2 0, 64, .inl lev)), (ro 10, .inl (Y.2 0, 4, .inl kvi)), (ro 11, .inl (Y.2 0, 4, .inl ksz)), (ro 12, .inl (Y.2 0, 4, .inl krt)), (ro 13, .inl (Y.2 1, 4, .inl (upd (upd ala j1 (nI 1)) j2 (nI 1)))), (ro 14, .inl (Y.2 0, 4, .inl fol)), (ro 15, .inl (Y.2 0, 4, .inl cts))] := hD
                refine lv_iload hx hb dX6_gossip_173 (lv_at hl 0 rfl) ?_
                refine th_zret hx hb hr hlk hQ hS dX6_gossip_175 (Nat.le_of_ble_eq_true rfl) (Nat.le_of_ble_eq_true rfl) (by first | exact Or.inl rfl | exact Or.inr rfl | assumption | exact th_b01 _) ?_
                show th_ro Y ro (_) _ _
                unfold sp_gossip
                simp only [zj1, zj2]
                rw [th_ifT ⟨q1, q2⟩]
                rw [th_ifF q3]
                exact th_roT (rfl) (th_rgI hP (th_RvW hvA j2b (hvA.2.2.2.2.2 j2 j2b).2.2.1 (Or.inr rfl) (hvA.2.2.2.2.2 j2 j2b).2.1 (hvA.2.2.2.2.2 j2 j2b).1.1 (hvA.2.2.2.2.2 j2 j2b).1.2.1 pk_us (hvA.2.2.2.2.2 j2 j2b).1.2.2.2.1 (hvA.2.2.2.2.2 j2 j2b).1.2.2.2.2 (fun a9 h9 => ⟨rfl, rfl, rfl, pk_un h9, rfl, rfl⟩)))
                
              · have hb9z : ala j2 = nI 1 := (hv.2.2.2.2.2 j2 j2b).1.2.2.1.trans hb9
                refine th_ti (show ala j2 = nI 1 from hb9z) ?_
                refine th_zne (tgt := 167) hx hb dX6_gossip_159 (by decide) (by omega) (fun c_38 => ?_) (fun c_38 => by exfalso; omega)
                refine lv_iconst (v := nI 1) hx hb dX6_gossip_167 (by decide) ?_
                refine lv_goto (tgt := 172) hx hb dX6_gossip_168 (by decide) ?_
                refine th_zast hx hb hK hP hD hS 13 rfl (j := j2) (by omega) (by omega) (by first | exact Or.inl rfl | exact Or.inr rfl | assumption) dX6_gossip_172 (fun H locs hP hD hS => ?_)
                have hP : va_P Y.1 vwCl [(ro 0, .inr (6, [.int (nI 0), .ref (ro 1), .ref (ro 2), .int (nI S.1), .ref (ro 3), .ref (ro 4), .ref (ro 5), .int (nI S.2.2.2.1), .ref (ro 6), .ref (ro 7), .int stp, .int efr, .int esz, .int etr, .ref (ro 8), .ref (ro 9), .ref (ro 10), .ref (ro 11), .ref (ro 12), .ref (ro 13), .ref (ro 14), .ref (ro 15)])), (ro 1, .inl (Y.2 0, 300, .inl val)), (ro 2, .inl (Y.2 0, 3, .inl siz)), (ro 3, .inl (Y.2 0, 8, .inl z_32t)), (ro 4, .inl (Y.2 0, 8, .inl z_32s)), (ro 5, .inl (Y.2 0, 12, .inl pro)), (ro 6, .inl (Y.2 0, 12, .inl bes)), (ro 7, .inl (Y.2 1, 12, .inl isr)), (ro 8, .inl (Y.2 0, 64, .inl key)), (ro 9, .inl (Y.2 0, 64, .inl lev)), (ro 10, .inl (Y.2 0, 4, .inl kvi)), (ro 11, .inl (Y.2 0, 4, .inl ksz)), (ro 12, .inl (Y.2 0, 4, .inl krt)), (ro 13, .inl (Y.2 1, 4, .inl (upd (upd ala j1 (nI 1)) j2 (nI 1)))), (ro 14, .inl (Y.2 0, 4, .inl fol)), (ro 15, .inl (Y.2 0, 4, .inl cts))] _ := hP
                have hD : va_D _ [(ro 0, .inr (6, [.int (nI 0), .ref (ro 1), .ref (ro 2), .int (nI S.1), .ref (ro 3), .ref (ro 4), .ref (ro 5), .int (nI S.2.2.2.1), .ref (ro 6), .ref (ro 7), .int stp, .int efr, .int esz, .int etr, .ref (ro 8), .ref (ro 9), .ref (ro 10), .ref (ro 11), .ref (ro 12), .ref (ro 13), .ref (ro 14), .ref (ro 15)])), (ro 1, .inl (Y.2 0, 300, .inl val)), (ro 2, .inl (Y.2 0, 3, .inl siz)), (ro 3, .inl (Y.2 0, 8, .inl z_32t)), (ro 4, .inl (Y.2 0, 8, .inl z_32s)), (ro 5, .inl (Y.2 0, 12, .inl pro)), (ro 6, .inl (Y.2 0, 12, .inl bes)), (ro 7, .inl (Y.2 1, 12, .inl isr)), (ro 8, .inl (Y.2 0, 64, .inl key)), (ro 9, .inl (Y.2 0, 64, .inl lev)), (ro 10, .inl (Y.2 0, 4, .inl kvi)), (ro 11, .inl (Y.2 0, 4, .inl ksz)), (ro 12, .inl (Y.2 0, 4, .inl krt)), (ro 13, .inl (Y.2 1, 4, .inl (upd (upd ala j1 (nI 1)) j2 (nI 1)))), (ro 14, .inl (Y.2 0, 4, .inl fol)), (ro 15, .inl (Y.2 0, 4, .inl cts))] := hD
                refine lv_iload hx hb dX6_gossip_173 (lv_at hl 0 rfl) ?_
                refine th_zret hx hb hr hlk hQ hS dX6_gossip_175 (Nat.le_of_ble_eq_true rfl) (Nat.le_of_ble_eq_true rfl) (by first | exact Or.inl rfl | exact Or.inr rfl | assumption | exact th_b01 _) ?_
                show th_ro Y ro (_) _ _
                unfold sp_gossip
                simp only [zj1, zj2]
                rw [th_ifT ⟨q1, q2⟩]
                rw [th_ifF q3]
                exact th_roT (rfl) (th_rgI hP (th_RvW hvA j2b (hvA.2.2.2.2.2 j2 j2b).2.2.1 (Or.inr rfl) (hvA.2.2.2.2.2 j2 j2b).2.1 (hvA.2.2.2.2.2 j2 j2b).1.1 (hvA.2.2.2.2.2 j2 j2b).1.2.1 pk_us (hvA.2.2.2.2.2 j2 j2b).1.2.2.2.1 (hvA.2.2.2.2.2 j2 j2b).1.2.2.2.2 (fun a9 h9 => ⟨rfl, rfl, rfl, pk_un h9, rfl, rfl⟩)))
                
            · have ha9z : ala j1 = nI 1 := (hv.2.2.2.2.2 j1 j1b).1.2.2.1.trans ha9
              refine th_ti (show ala j1 = nI 1 from ha9z) ?_
              refine th_zne (tgt := 142) hx hb dX6_gossip_134 (by decide) (by omega) (fun c_39 => ?_) (fun c_39 => by exfalso; omega)
              refine lv_iconst (v := nI 1) hx hb dX6_gossip_142 (by decide) ?_
              refine lv_goto (tgt := 147) hx hb dX6_gossip_143 (by decide) ?_
              refine th_zast hx hb hK hP hD hS 13 rfl (j := j1) (by omega) (by omega) (by first | exact Or.inl rfl | exact Or.inr rfl | assumption) dX6_gossip_147 (fun H locs hP hD hS => ?_)
              have hP : va_P Y.1 vwCl [(ro 0, .inr (6, [.int (nI 0), .ref (ro 1), .ref (ro 2), .int (nI S.1), .ref (ro 3), .ref (ro 4), .ref (ro 5), .int (nI S.2.2.2.1), .ref (ro 6), .ref (ro 7), .int stp, .int efr, .int esz, .int etr, .ref (ro 8), .ref (ro 9), .ref (ro 10), .ref (ro 11), .ref (ro 12), .ref (ro 13), .ref (ro 14), .ref (ro 15)])), (ro 1, .inl (Y.2 0, 300, .inl val)), (ro 2, .inl (Y.2 0, 3, .inl siz)), (ro 3, .inl (Y.2 0, 8, .inl z_32t)), (ro 4, .inl (Y.2 0, 8, .inl z_32s)), (ro 5, .inl (Y.2 0, 12, .inl pro)), (ro 6, .inl (Y.2 0, 12, .inl bes)), (ro 7, .inl (Y.2 1, 12, .inl isr)), (ro 8, .inl (Y.2 0, 64, .inl key)), (ro 9, .inl (Y.2 0, 64, .inl lev)), (ro 10, .inl (Y.2 0, 4, .inl kvi)), (ro 11, .inl (Y.2 0, 4, .inl ksz)), (ro 12, .inl (Y.2 0, 4, .inl krt)), (ro 13, .inl (Y.2 1, 4, .inl (upd ala j1 (nI 1)))), (ro 14, .inl (Y.2 0, 4, .inl fol)), (ro 15, .inl (Y.2 0, 4, .inl cts))] _ := hP
              have hD : va_D _ [(ro 0, .inr (6, [.int (nI 0), .ref (ro 1), .ref (ro 2), .int (nI S.1), .ref (ro 3), .ref (ro 4), .ref (ro 5), .int (nI S.2.2.2.1), .ref (ro 6), .ref (ro 7), .int stp, .int efr, .int esz, .int etr, .ref (ro 8), .ref (ro 9), .ref (ro 10), .ref (ro 11), .ref (ro 12), .ref (ro 13), .ref (ro 14), .ref (ro 15)])), (ro 1, .inl (Y.2 0, 300, .inl val)), (ro 2, .inl (Y.2 0, 3, .inl siz)), (ro 3, .inl (Y.2 0, 8, .inl z_32t)), (ro 4, .inl (Y.2 0, 8, .inl z_32s)), (ro 5, .inl (Y.2 0, 12, .inl pro)), (ro 6, .inl (Y.2 0, 12, .inl bes)), (ro 7, .inl (Y.2 1, 12, .inl isr)), (ro 8, .inl (Y.2 0, 64, .inl key)), (ro 9, .inl (Y.2 0, 64, .inl lev)), (ro 10, .inl (Y.2 0, 4, .inl kvi)), (ro 11, .inl (Y.2 0, 4, .inl ksz)), (ro 12, .inl (Y.2 0, 4, .inl krt)), (ro 13, .inl (Y.2 1, 4, .inl (upd ala j1 (nI 1)))), (ro 14, .inl (Y.2 0, 4, .inl fol)), (ro 15, .inl (Y.2 0, 4, .inl cts))] := hD
              refine lv_aload_n hx hb dX6_gossip_148 rfl (lv_at hl 3 rfl) ?_
              refine va_get (D := Y.1) (ci := 6) (v := .ref (ro 13)) (C := RX6) (T := TX6) (N := 22) hx hb hts inX6 hown hK hP 0 rfl rfl 19 (by decide) (hts _ tw_3_174) (fun _ h9 => h9) rfl dX6_gossip_149 ?_
              refine lv_iload_n hx hb dX6_gossip_152 rfl (lv_at hl 5 rfl) ?_
              refine lv_aload_n hx hb dX6_gossip_153 rfl (lv_at hl 3 rfl) ?_
              refine va_get (D := Y.1) (ci := 6) (v := .ref (ro 13)) (C := RX6) (T := TX6) (N := 22) hx hb hts inX6 hown hK hP 0 rfl rfl 19 (by decide) (hts _ tw_3_174) (fun _ h9 => h9) rfl dX6_gossip_154 ?_
              refine lv_iload_n hx hb dX6_gossip_157 rfl (lv_at hl 5 rfl) ?_
              refine th_zald hx hb hK hP 13 rfl (j := j2) (by omega) (by omega) dX6_gossip_158 ?_
              refine th_ti (show (upd ala j1 (nI 1)) j2 = ala j2 from pk_un (by omega)) ?_
              rcases (hv.2.2.2.2.2 j2 j2b).2.2.2 with hb9 | hb9
              · have hb9z : ala j2 = nI 0 := (hv.2.2.2.2.2 j2 j2b).1.2.2.1.trans hb9
                refine th_ti (show ala j2 = nI 0 from hb9z) ?_
                refine th_zne (tgt := 167) hx hb dX6_gossip_159 (by decide) (by omega) (fun c_40 => by exfalso; omega) (fun c_40 => ?_)
                refine lv_iload hx hb dX6_gossip_162 (lv_at hl 0 rfl) ?_
                refine th_zne (tgt := 171) hx hb dX6_gossip_164 (by decide) (by omega) (fun c_41 => by exfalso; omega) (fun c_41 => ?_)
                refine lv_iconst (v := nI 1) hx hb dX6_gossip_167 (by decide) ?_
                refine lv_goto (tgt := 172) hx hb dX6_gossip_168 (by decide) ?_
                refine th_zast hx hb hK hP hD hS 13 rfl (j := j2) (by omega) (by omega) (by first | exact Or.inl rfl | exact Or.inr rfl | assumption) dX6_gossip_172 (fun H locs hP hD hS => ?_)
                have hP : va_P Y.1 vwCl [(ro 0, .inr (6, [.int (nI 0), .ref (ro 1), .ref (ro 2), .int (nI S.1), .ref (ro 3), .ref (ro 4), .ref (ro 5), .int (nI S.2.2.2.1), .ref (ro 6), .ref (ro 7), .int stp, .int efr, .int esz, .int etr, .ref (ro 8), .ref (ro 9), .ref (ro 10), .ref (ro 11), .ref (ro 12), .ref (ro 13), .ref (ro 14), .ref (ro 15)])), (ro 1, .inl (Y.2 0, 300, .inl val)), (ro 2, .inl (Y.2 0, 3, .inl siz)), (ro 3, .inl (Y.2 0, 8, .inl z_32t)), (ro 4, .inl (Y.2 0, 8, .inl z_32s)), (ro 5, .inl (Y.2 0, 12, .inl pro)), (ro 6, .inl (Y.2 0, 12, .inl bes)), (ro 7, .inl (Y.2 1, 12, .inl isr)), (ro 8, .inl (Y.2 0, 64, .inl key)), (ro 9, .inl (Y.2 0, 64, .inl lev)), (ro 10, .inl (Y.2 0, 4, .inl kvi)), (ro 11, .inl (Y.2 0, 4, .inl ksz)), (ro 12, .inl (Y.2 0, 4, .inl krt)), (ro 13, .inl (Y.2 1, 4, .inl (upd (upd ala j1 (nI 1)) j2 (nI 1)))), (ro 14, .inl (Y.2 0, 4, .inl fol)), (ro 15, .inl (Y.2 0, 4, .inl cts))] _ := hP
                have hD : va_D _ [(ro 0, .inr (6, [.int (nI 0), .ref (ro 1), .ref (ro 2), .int (nI S.1), .ref (ro 3), .ref (ro 4), .ref (ro 5), .int (nI S.2.2.2.1), .ref (ro 6), .ref (ro 7), .int stp, .int efr, .int esz, .int etr, .ref (ro 8), .ref (ro 9), .ref (ro 10), .ref (ro 11), .ref (ro 12), .ref (ro 13), .ref (ro 14), .ref (ro 15)])), (ro 1, .inl (Y.2 0, 300, .inl val)), (ro 2, .inl (Y.2 0, 3, .inl siz)), (ro 3, .inl (Y.2 0, 8, .inl z_32t)), (ro 4, .inl (Y.2 0, 8, .inl z_32s)), (ro 5, .inl (Y.2 0, 12, .inl pro)), (ro 6, .inl (Y.2 0, 12, .inl bes)), (ro 7, .inl (Y.2 1, 12, .inl isr)), (ro 8, .inl (Y.2 0, 64, .inl key)), (ro 9, .inl (Y.2 0, 64, .inl lev)), (ro 10, .inl (Y.2 0, 4, .inl kvi)), (ro 11, .inl (Y.2 0, 4, .inl ksz)), (ro 12, .inl (Y.2 0, 4, .inl krt)), (ro 13, .inl (Y.2 1, 4, .inl (upd (upd ala j1 (nI 1)) j2 (nI 1)))), (ro 14, .inl (Y.2 0, 4, .inl fol)), (ro 15, .inl (Y.2 0, 4, .inl cts))] := hD
                refine lv_iload hx hb dX6_gossip_173 (lv_at hl 0 rfl) ?_
                refine th_zret hx hb hr hlk hQ hS dX6_gossip_175 (Nat.le_of_ble_eq_true rfl) (Nat.le_of_ble_eq_true rfl) (by first | exact Or.inl rfl | exact Or.inr rfl | assumption | exact th_b01 _) ?_
                show th_ro Y ro (_) _ _
                unfold sp_gossip
                simp only [zj1, zj2]
                rw [th_ifT ⟨q1, q2⟩]
                rw [th_ifF q3]
                exact th_roT (rfl) (th_rgI hP (th_RvW hvA j2b (hvA.2.2.2.2.2 j2 j2b).2.2.1 (Or.inr rfl) (hvA.2.2.2.2.2 j2 j2b).2.1 (hvA.2.2.2.2.2 j2 j2b).1.1 (hvA.2.2.2.2.2 j2 j2b).1.2.1 pk_us (hvA.2.2.2.2.2 j2 j2b).1.2.2.2.1 (hvA.2.2.2.2.2 j2 j2b).1.2.2.2.2 (fun a9 h9 => ⟨rfl, rfl, rfl, pk_un h9, rfl, rfl⟩)))
                
              · have hb9z : ala j2 = nI 1 := (hv.2.2.2.2.2 j2 j2b).1.2.2.1.trans hb9
                refine th_ti (show ala j2 = nI 1 from hb9z) ?_
                refine th_zne (tgt := 167) hx hb dX6_gossip_159 (by decide) (by omega) (fun c_42 => ?_) (fun c_42 => by exfalso; omega)
                refine lv_iconst (v := nI 1) hx hb dX6_gossip_167 (by decide) ?_
                refine lv_goto (tgt := 172) hx hb dX6_gossip_168 (by decide) ?_
                refine th_zast hx hb hK hP hD hS 13 rfl (j := j2) (by omega) (by omega) (by first | exact Or.inl rfl | exact Or.inr rfl | assumption) dX6_gossip_172 (fun H locs hP hD hS => ?_)
                have hP : va_P Y.1 vwCl [(ro 0, .inr (6, [.int (nI 0), .ref (ro 1), .ref (ro 2), .int (nI S.1), .ref (ro 3), .ref (ro 4), .ref (ro 5), .int (nI S.2.2.2.1), .ref (ro 6), .ref (ro 7), .int stp, .int efr, .int esz, .int etr, .ref (ro 8), .ref (ro 9), .ref (ro 10), .ref (ro 11), .ref (ro 12), .ref (ro 13), .ref (ro 14), .ref (ro 15)])), (ro 1, .inl (Y.2 0, 300, .inl val)), (ro 2, .inl (Y.2 0, 3, .inl siz)), (ro 3, .inl (Y.2 0, 8, .inl z_32t)), (ro 4, .inl (Y.2 0, 8, .inl z_32s)), (ro 5, .inl (Y.2 0, 12, .inl pro)), (ro 6, .inl (Y.2 0, 12, .inl bes)), (ro 7, .inl (Y.2 1, 12, .inl isr)), (ro 8, .inl (Y.2 0, 64, .inl key)), (ro 9, .inl (Y.2 0, 64, .inl lev)), (ro 10, .inl (Y.2 0, 4, .inl kvi)), (ro 11, .inl (Y.2 0, 4, .inl ksz)), (ro 12, .inl (Y.2 0, 4, .inl krt)), (ro 13, .inl (Y.2 1, 4, .inl (upd (upd ala j1 (nI 1)) j2 (nI 1)))), (ro 14, .inl (Y.2 0, 4, .inl fol)), (ro 15, .inl (Y.2 0, 4, .inl cts))] _ := hP
                have hD : va_D _ [(ro 0, .inr (6, [.int (nI 0), .ref (ro 1), .ref (ro 2), .int (nI S.1), .ref (ro 3), .ref (ro 4), .ref (ro 5), .int (nI S.2.2.2.1), .ref (ro 6), .ref (ro 7), .int stp, .int efr, .int esz, .int etr, .ref (ro 8), .ref (ro 9), .ref (ro 10), .ref (ro 11), .ref (ro 12), .ref (ro 13), .ref (ro 14), .ref (ro 15)])), (ro 1, .inl (Y.2 0, 300, .inl val)), (ro 2, .inl (Y.2 0, 3, .inl siz)), (ro 3, .inl (Y.2 0, 8, .inl z_32t)), (ro 4, .inl (Y.2 0, 8, .inl z_32s)), (ro 5, .inl (Y.2 0, 12, .inl pro)), (ro 6, .inl (Y.2 0, 12, .inl bes)), (ro 7, .inl (Y.2 1, 12, .inl isr)), (ro 8, .inl (Y.2 0, 64, .inl key)), (ro 9, .inl (Y.2 0, 64, .inl lev)), (ro 10, .inl (Y.2 0, 4, .inl kvi)), (ro 11, .inl (Y.2 0, 4, .inl ksz)), (ro 12, .inl (Y.2 0, 4, .inl krt)), (ro 13, .inl (Y.2 1, 4, .inl (upd (upd ala j1 (nI 1)) j2 (nI 1)))), (ro 14, .inl (Y.2 0, 4, .inl fol)), (ro 15, .inl (Y.2 0, 4, .inl cts))] := hD
                refine lv_iload hx hb dX6_gossip_173 (lv_at hl 0 rfl) ?_
                refine th_zret hx hb hr hlk hQ hS dX6_gossip_175 (Nat.le_of_ble_eq_true rfl) (Nat.le_of_ble_eq_true rfl) (by first | exact Or.inl rfl | exact Or.inr rfl | assumption | exact th_b01 _) ?_
                show th_ro Y ro (_) _ _
                unfold sp_gossip
                simp only [zj1, zj2]
                rw [th_ifT ⟨q1, q2⟩]
                rw [th_ifF q3]
                exact th_roT (rfl) (th_rgI hP (th_RvW hvA j2b (hvA.2.2.2.2.2 j2 j2b).2.2.1 (Or.inr rfl) (hvA.2.2.2.2.2 j2 j2b).2.1 (hvA.2.2.2.2.2 j2 j2b).1.1 (hvA.2.2.2.2.2 j2 j2b).1.2.1 pk_us (hvA.2.2.2.2.2 j2 j2b).1.2.2.2.1 (hvA.2.2.2.2.2 j2 j2b).1.2.2.2.2 (fun a9 h9 => ⟨rfl, rfl, rfl, pk_un h9, rfl, rfl⟩)))
                
          have q3 : th_ft S j1 j2 := Or.inr (fun i9 j9 hi9 hj9 => by
            rw [hKs] at hi9
            rw [hKm] at hj9
            cases hi9
            cases hj9
            rw [hW0, hWm, th_ixN (by omega), th_ixN (by omega)]
            exact ⟨fun z9 => by exfalso; omega, fun _ => c_33⟩)
          refine lv_iconst (v := nI 1) hx hb dX6_gossip_116 (by decide) ?_
          refine lv_goto (tgt := 121) hx hb dX6_gossip_117 (by decide) ?_
          refine lv_istore (lv' := [(5, .int (nI 1)), (4, .int (nI j1)), (3, .int (nI j2)), (0, .ref (ro 0)), (1, .int (nI j1)), (2, .int (nI j2))]) hx hb dX6_gossip_121 hl (by decide) rfl (fun ls hl => ?_)
          refine lv_aload_n hx hb dX6_gossip_123 rfl (lv_at hl 3 rfl) ?_
          refine va_get (D := Y.1) (ci := 6) (v := .ref (ro 13)) (C := RX6) (T := TX6) (N := 22) hx hb hts inX6 hown hK hP 0 rfl rfl 19 (by decide) (hts _ tw_3_174) (fun _ h9 => h9) rfl dX6_gossip_124 ?_
          refine lv_iload_n hx hb dX6_gossip_127 rfl (lv_at hl 4 rfl) ?_
          refine lv_aload_n hx hb dX6_gossip_128 rfl (lv_at hl 3 rfl) ?_
          refine va_get (D := Y.1) (ci := 6) (v := .ref (ro 13)) (C := RX6) (T := TX6) (N := 22) hx hb hts inX6 hown hK hP 0 rfl rfl 19 (by decide) (hts _ tw_3_174) (fun _ h9 => h9) rfl dX6_gossip_129 ?_
          refine lv_iload_n hx hb dX6_gossip_132 rfl (lv_at hl 4 rfl) ?_
          refine th_zald hx hb hK hP 13 rfl (j := j1) (by omega) (by omega) dX6_gossip_133 ?_
          rcases (hv.2.2.2.2.2 j1 j1b).2.2.2 with ha9 | ha9
          · have ha9z : ala j1 = nI 0 := (hv.2.2.2.2.2 j1 j1b).1.2.2.1.trans ha9
            refine th_ti (show ala j1 = nI 0 from ha9z) ?_
            refine th_zne (tgt := 142) hx hb dX6_gossip_134 (by decide) (by omega) (fun c_43 => by exfalso; omega) (fun c_43 => ?_)
            refine lv_iload hx hb dX6_gossip_137 (lv_at hl 0 rfl) ?_
            refine th_zne (tgt := 146) hx hb dX6_gossip_139 (by decide) (by omega) (fun c_44 => ?_) (fun c_44 => by exfalso; omega)
            refine lv_iconst (v := nI 0) hx hb dX6_gossip_146 (by decide) ?_
            refine th_zast hx hb hK hP hD hS 13 rfl (j := j1) (by omega) (by omega) (by first | exact Or.inl rfl | exact Or.inr rfl | assumption) dX6_gossip_147 (fun H locs hP hD hS => ?_)
            have hP : va_P Y.1 vwCl [(ro 0, .inr (6, [.int (nI 0), .ref (ro 1), .ref (ro 2), .int (nI S.1), .ref (ro 3), .ref (ro 4), .ref (ro 5), .int (nI S.2.2.2.1), .ref (ro 6), .ref (ro 7), .int stp, .int efr, .int esz, .int etr, .ref (ro 8), .ref (ro 9), .ref (ro 10), .ref (ro 11), .ref (ro 12), .ref (ro 13), .ref (ro 14), .ref (ro 15)])), (ro 1, .inl (Y.2 0, 300, .inl val)), (ro 2, .inl (Y.2 0, 3, .inl siz)), (ro 3, .inl (Y.2 0, 8, .inl z_32t)), (ro 4, .inl (Y.2 0, 8, .inl z_32s)), (ro 5, .inl (Y.2 0, 12, .inl pro)), (ro 6, .inl (Y.2 0, 12, .inl bes)), (ro 7, .inl (Y.2 1, 12, .inl isr)), (ro 8, .inl (Y.2 0, 64, .inl key)), (ro 9, .inl (Y.2 0, 64, .inl lev)), (ro 10, .inl (Y.2 0, 4, .inl kvi)), (ro 11, .inl (Y.2 0, 4, .inl ksz)), (ro 12, .inl (Y.2 0, 4, .inl krt)), (ro 13, .inl (Y.2 1, 4, .inl (upd ala j1 (nI 0)))), (ro 14, .inl (Y.2 0, 4, .inl fol)), (ro 15, .inl (Y.2 0, 4, .inl cts))] _ := hP
            have hD : va_D _ [(ro 0, .inr (6, [.int (nI 0), .ref (ro 1), .ref (ro 2), .int (nI S.1), .ref (ro 3), .ref (ro 4), .ref (ro 5), .int (nI S.2.2.2.1), .ref (ro 6), .ref (ro 7), .int stp, .int efr, .int esz, .int etr, .ref (ro 8), .ref (ro 9), .ref (ro 10), .ref (ro 11), .ref (ro 12), .ref (ro 13), .ref (ro 14), .ref (ro 15)])), (ro 1, .inl (Y.2 0, 300, .inl val)), (ro 2, .inl (Y.2 0, 3, .inl siz)), (ro 3, .inl (Y.2 0, 8, .inl z_32t)), (ro 4, .inl (Y.2 0, 8, .inl z_32s)), (ro 5, .inl (Y.2 0, 12, .inl pro)), (ro 6, .inl (Y.2 0, 12, .inl bes)), (ro 7, .inl (Y.2 1, 12, .inl isr)), (ro 8, .inl (Y.2 0, 64, .inl key)), (ro 9, .inl (Y.2 0, 64, .inl lev)), (ro 10, .inl (Y.2 0, 4, .inl kvi)), (ro 11, .inl (Y.2 0, 4, .inl ksz)), (ro 12, .inl (Y.2 0, 4, .inl krt)), (ro 13, .inl (Y.2 1, 4, .inl (upd ala j1 (nI 0)))), (ro 14, .inl (Y.2 0, 4, .inl fol)), (ro 15, .inl (Y.2 0, 4, .inl cts))] := hD
            refine lv_aload_n hx hb dX6_gossip_148 rfl (lv_at hl 3 rfl) ?_
            refine va_get (D := Y.1) (ci := 6) (v := .ref (ro 13)) (C := RX6) (T := TX6) (N := 22) hx hb hts inX6 hown hK hP 0 rfl rfl 19 (by decide) (hts _ tw_3_174) (fun _ h9 => h9) rfl dX6_gossip_149 ?_
            refine lv_iload_n hx hb dX6_gossip_152 rfl (lv_at hl 5 rfl) ?_
            refine lv_aload_n hx hb dX6_gossip_153 rfl (lv_at hl 3 rfl) ?_
            refine va_get (D := Y.1) (ci := 6) (v := .ref (ro 13)) (C := RX6) (T := TX6) (N := 22) hx hb hts inX6 hown hK hP 0 rfl rfl 19 (by decide) (hts _ tw_3_174) (fun _ h9 => h9) rfl dX6_gossip_154 ?_
            refine lv_iload_n hx hb dX6_gossip_157 rfl (lv_at hl 5 rfl) ?_
            refine th_zald hx hb hK hP 13 rfl (j := j2) (by omega) (by omega) dX6_gossip_158 ?_
            refine th_ti (show (upd ala j1 (nI 0)) j2 = ala j2 from pk_un (by omega)) ?_
            rcases (hv.2.2.2.2.2 j2 j2b).2.2.2 with hb9 | hb9
            · have hb9z : ala j2 = nI 0 := (hv.2.2.2.2.2 j2 j2b).1.2.2.1.trans hb9
              refine th_ti (show ala j2 = nI 0 from hb9z) ?_
              refine th_zne (tgt := 167) hx hb dX6_gossip_159 (by decide) (by omega) (fun c_45 => by exfalso; omega) (fun c_45 => ?_)
              refine lv_iload hx hb dX6_gossip_162 (lv_at hl 0 rfl) ?_
              refine th_zne (tgt := 171) hx hb dX6_gossip_164 (by decide) (by omega) (fun c_46 => ?_) (fun c_46 => by exfalso; omega)
              refine lv_iconst (v := nI 0) hx hb dX6_gossip_171 (by decide) ?_
              refine th_zast hx hb hK hP hD hS 13 rfl (j := j2) (by omega) (by omega) (by first | exact Or.inl rfl | exact Or.inr rfl | assumption) dX6_gossip_172 (fun H locs hP hD hS => ?_)
              have hP : va_P Y.1 vwCl [(ro 0, .inr (6, [.int (nI 0), .ref (ro 1), .ref (ro 2), .int (nI S.1), .ref (ro 3), .ref (ro 4), .ref (ro 5), .int (nI S.2.2.2.1), .ref (ro 6), .ref (ro 7), .int stp, .int efr, .int esz, .int etr, .ref (ro 8), .ref (ro 9), .ref (ro 10), .ref (ro 11), .ref (ro 12), .ref (ro 13), .ref (ro 14), .ref (ro 15)])), (ro 1, .inl (Y.2 0, 300, .inl val)), (ro 2, .inl (Y.2 0, 3, .inl siz)), (ro 3, .inl (Y.2 0, 8, .inl z_32t)), (ro 4, .inl (Y.2 0, 8, .inl z_32s)), (ro 5, .inl (Y.2 0, 12, .inl pro)), (ro 6, .inl (Y.2 0, 12, .inl bes)), (ro 7, .inl (Y.2 1, 12, .inl isr)), (ro 8, .inl (Y.2 0, 64, .inl key)), (ro 9, .inl (Y.2 0, 64, .inl lev)), (ro 10, .inl (Y.2 0, 4, .inl kvi)), (ro 11, .inl (Y.2 0, 4, .inl ksz)), (ro 12, .inl (Y.2 0, 4, .inl krt)), (ro 13, .inl (Y.2 1, 4, .inl (upd (upd ala j1 (nI 0)) j2 (nI 0)))), (ro 14, .inl (Y.2 0, 4, .inl fol)), (ro 15, .inl (Y.2 0, 4, .inl cts))] _ := hP
              have hD : va_D _ [(ro 0, .inr (6, [.int (nI 0), .ref (ro 1), .ref (ro 2), .int (nI S.1), .ref (ro 3), .ref (ro 4), .ref (ro 5), .int (nI S.2.2.2.1), .ref (ro 6), .ref (ro 7), .int stp, .int efr, .int esz, .int etr, .ref (ro 8), .ref (ro 9), .ref (ro 10), .ref (ro 11), .ref (ro 12), .ref (ro 13), .ref (ro 14), .ref (ro 15)])), (ro 1, .inl (Y.2 0, 300, .inl val)), (ro 2, .inl (Y.2 0, 3, .inl siz)), (ro 3, .inl (Y.2 0, 8, .inl z_32t)), (ro 4, .inl (Y.2 0, 8, .inl z_32s)), (ro 5, .inl (Y.2 0, 12, .inl pro)), (ro 6, .inl (Y.2 0, 12, .inl bes)), (ro 7, .inl (Y.2 1, 12, .inl isr)), (ro 8, .inl (Y.2 0, 64, .inl key)), (ro 9, .inl (Y.2 0, 64, .inl lev)), (ro 10, .inl (Y.2 0, 4, .inl kvi)), (ro 11, .inl (Y.2 0, 4, .inl ksz)), (ro 12, .inl (Y.2 0, 4, .inl krt)), (ro 13, .inl (Y.2 1, 4, .inl (upd (upd ala j1 (nI 0)) j2 (nI 0)))), (ro 14, .inl (Y.2 0, 4, .inl fol)), (ro 15, .inl (Y.2 0, 4, .inl cts))] := hD
              refine lv_iload hx hb dX6_gossip_173 (lv_at hl 0 rfl) ?_
              refine th_zret hx hb hr hlk hQ hS dX6_gossip_175 (Nat.le_of_ble_eq_true rfl) (Nat.le_of_ble_eq_true rfl) (by first | exact Or.inl rfl | exact Or.inr rfl | assumption | exact th_b01 _) ?_
              show th_ro Y ro (_) _ _
              unfold sp_gossip
              simp only [zj1, zj2]
              rw [th_ifT ⟨q1, q2⟩]
              rw [th_ifT q3]
              exact th_roT (rfl) (th_rgI hP (th_RvA hv (fun a9 => (th_updS ((pk_un (by omega)).trans hb9z).symm a9).trans (th_updS ha9z.symm a9))))
              
            · have hb9z : ala j2 = nI 1 := (hv.2.2.2.2.2 j2 j2b).1.2.2.1.trans hb9
              refine th_ti (show ala j2 = nI 1 from hb9z) ?_
              refine th_zne (tgt := 167) hx hb dX6_gossip_159 (by decide) (by omega) (fun c_47 => ?_) (fun c_47 => by exfalso; omega)
              refine lv_iconst (v := nI 1) hx hb dX6_gossip_167 (by decide) ?_
              refine lv_goto (tgt := 172) hx hb dX6_gossip_168 (by decide) ?_
              refine th_zast hx hb hK hP hD hS 13 rfl (j := j2) (by omega) (by omega) (by first | exact Or.inl rfl | exact Or.inr rfl | assumption) dX6_gossip_172 (fun H locs hP hD hS => ?_)
              have hP : va_P Y.1 vwCl [(ro 0, .inr (6, [.int (nI 0), .ref (ro 1), .ref (ro 2), .int (nI S.1), .ref (ro 3), .ref (ro 4), .ref (ro 5), .int (nI S.2.2.2.1), .ref (ro 6), .ref (ro 7), .int stp, .int efr, .int esz, .int etr, .ref (ro 8), .ref (ro 9), .ref (ro 10), .ref (ro 11), .ref (ro 12), .ref (ro 13), .ref (ro 14), .ref (ro 15)])), (ro 1, .inl (Y.2 0, 300, .inl val)), (ro 2, .inl (Y.2 0, 3, .inl siz)), (ro 3, .inl (Y.2 0, 8, .inl z_32t)), (ro 4, .inl (Y.2 0, 8, .inl z_32s)), (ro 5, .inl (Y.2 0, 12, .inl pro)), (ro 6, .inl (Y.2 0, 12, .inl bes)), (ro 7, .inl (Y.2 1, 12, .inl isr)), (ro 8, .inl (Y.2 0, 64, .inl key)), (ro 9, .inl (Y.2 0, 64, .inl lev)), (ro 10, .inl (Y.2 0, 4, .inl kvi)), (ro 11, .inl (Y.2 0, 4, .inl ksz)), (ro 12, .inl (Y.2 0, 4, .inl krt)), (ro 13, .inl (Y.2 1, 4, .inl (upd (upd ala j1 (nI 0)) j2 (nI 1)))), (ro 14, .inl (Y.2 0, 4, .inl fol)), (ro 15, .inl (Y.2 0, 4, .inl cts))] _ := hP
              have hD : va_D _ [(ro 0, .inr (6, [.int (nI 0), .ref (ro 1), .ref (ro 2), .int (nI S.1), .ref (ro 3), .ref (ro 4), .ref (ro 5), .int (nI S.2.2.2.1), .ref (ro 6), .ref (ro 7), .int stp, .int efr, .int esz, .int etr, .ref (ro 8), .ref (ro 9), .ref (ro 10), .ref (ro 11), .ref (ro 12), .ref (ro 13), .ref (ro 14), .ref (ro 15)])), (ro 1, .inl (Y.2 0, 300, .inl val)), (ro 2, .inl (Y.2 0, 3, .inl siz)), (ro 3, .inl (Y.2 0, 8, .inl z_32t)), (ro 4, .inl (Y.2 0, 8, .inl z_32s)), (ro 5, .inl (Y.2 0, 12, .inl pro)), (ro 6, .inl (Y.2 0, 12, .inl bes)), (ro 7, .inl (Y.2 1, 12, .inl isr)), (ro 8, .inl (Y.2 0, 64, .inl key)), (ro 9, .inl (Y.2 0, 64, .inl lev)), (ro 10, .inl (Y.2 0, 4, .inl kvi)), (ro 11, .inl (Y.2 0, 4, .inl ksz)), (ro 12, .inl (Y.2 0, 4, .inl krt)), (ro 13, .inl (Y.2 1, 4, .inl (upd (upd ala j1 (nI 0)) j2 (nI 1)))), (ro 14, .inl (Y.2 0, 4, .inl fol)), (ro 15, .inl (Y.2 0, 4, .inl cts))] := hD
              refine lv_iload hx hb dX6_gossip_173 (lv_at hl 0 rfl) ?_
              refine th_zret hx hb hr hlk hQ hS dX6_gossip_175 (Nat.le_of_ble_eq_true rfl) (Nat.le_of_ble_eq_true rfl) (by first | exact Or.inl rfl | exact Or.inr rfl | assumption | exact th_b01 _) ?_
              show th_ro Y ro (_) _ _
              unfold sp_gossip
              simp only [zj1, zj2]
              rw [th_ifT ⟨q1, q2⟩]
              rw [th_ifT q3]
              exact th_roT (rfl) (th_rgI hP (th_RvA hv (fun a9 => (th_updS ((pk_un (by omega)).trans hb9z).symm a9).trans (th_updS ha9z.symm a9))))
              
          · have ha9z : ala j1 = nI 1 := (hv.2.2.2.2.2 j1 j1b).1.2.2.1.trans ha9
            refine th_ti (show ala j1 = nI 1 from ha9z) ?_
            refine th_zne (tgt := 142) hx hb dX6_gossip_134 (by decide) (by omega) (fun c_48 => ?_) (fun c_48 => by exfalso; omega)
            refine lv_iconst (v := nI 1) hx hb dX6_gossip_142 (by decide) ?_
            refine lv_goto (tgt := 147) hx hb dX6_gossip_143 (by decide) ?_
            refine th_zast hx hb hK hP hD hS 13 rfl (j := j1) (by omega) (by omega) (by first | exact Or.inl rfl | exact Or.inr rfl | assumption) dX6_gossip_147 (fun H locs hP hD hS => ?_)
            have hP : va_P Y.1 vwCl [(ro 0, .inr (6, [.int (nI 0), .ref (ro 1), .ref (ro 2), .int (nI S.1), .ref (ro 3), .ref (ro 4), .ref (ro 5), .int (nI S.2.2.2.1), .ref (ro 6), .ref (ro 7), .int stp, .int efr, .int esz, .int etr, .ref (ro 8), .ref (ro 9), .ref (ro 10), .ref (ro 11), .ref (ro 12), .ref (ro 13), .ref (ro 14), .ref (ro 15)])), (ro 1, .inl (Y.2 0, 300, .inl val)), (ro 2, .inl (Y.2 0, 3, .inl siz)), (ro 3, .inl (Y.2 0, 8, .inl z_32t)), (ro 4, .inl (Y.2 0, 8, .inl z_32s)), (ro 5, .inl (Y.2 0, 12, .inl pro)), (ro 6, .inl (Y.2 0, 12, .inl bes)), (ro 7, .inl (Y.2 1, 12, .inl isr)), (ro 8, .inl (Y.2 0, 64, .inl key)), (ro 9, .inl (Y.2 0, 64, .inl lev)), (ro 10, .inl (Y.2 0, 4, .inl kvi)), (ro 11, .inl (Y.2 0, 4, .inl ksz)), (ro 12, .inl (Y.2 0, 4, .inl krt)), (ro 13, .inl (Y.2 1, 4, .inl (upd ala j1 (nI 1)))), (ro 14, .inl (Y.2 0, 4, .inl fol)), (ro 15, .inl (Y.2 0, 4, .inl cts))] _ := hP
            have hD : va_D _ [(ro 0, .inr (6, [.int (nI 0), .ref (ro 1), .ref (ro 2), .int (nI S.1), .ref (ro 3), .ref (ro 4), .ref (ro 5), .int (nI S.2.2.2.1), .ref (ro 6), .ref (ro 7), .int stp, .int efr, .int esz, .int etr, .ref (ro 8), .ref (ro 9), .ref (ro 10), .ref (ro 11), .ref (ro 12), .ref (ro 13), .ref (ro 14), .ref (ro 15)])), (ro 1, .inl (Y.2 0, 300, .inl val)), (ro 2, .inl (Y.2 0, 3, .inl siz)), (ro 3, .inl (Y.2 0, 8, .inl z_32t)), (ro 4, .inl (Y.2 0, 8, .inl z_32s)), (ro 5, .inl (Y.2 0, 12, .inl pro)), (ro 6, .inl (Y.2 0, 12, .inl bes)), (ro 7, .inl (Y.2 1, 12, .inl isr)), (ro 8, .inl (Y.2 0, 64, .inl key)), (ro 9, .inl (Y.2 0, 64, .inl lev)), (ro 10, .inl (Y.2 0, 4, .inl kvi)), (ro 11, .inl (Y.2 0, 4, .inl ksz)), (ro 12, .inl (Y.2 0, 4, .inl krt)), (ro 13, .inl (Y.2 1, 4, .inl (upd ala j1 (nI 1)))), (ro 14, .inl (Y.2 0, 4, .inl fol)), (ro 15, .inl (Y.2 0, 4, .inl cts))] := hD
            refine lv_aload_n hx hb dX6_gossip_148 rfl (lv_at hl 3 rfl) ?_
            refine va_get (D := Y.1) (ci := 6) (v := .ref (ro 13)) (C := RX6) (T := TX6) (N := 22) hx hb hts inX6 hown hK hP 0 rfl rfl 19 (by decide) (hts _ tw_3_174) (fun _ h9 => h9) rfl dX6_gossip_149 ?_
            refine lv_iload_n hx hb dX6_gossip_152 rfl (lv_at hl 5 rfl) ?_
            refine lv_aload_n hx hb dX6_gossip_153 rfl (lv_at hl 3 rfl) ?_
            refine va_get (D := Y.1) (ci := 6) (v := .ref (ro 13)) (C := RX6) (T := TX6) (N := 22) hx hb hts inX6 hown hK hP 0 rfl rfl 19 (by decide) (hts _ tw_3_174) (fun _ h9 => h9) rfl dX6_gossip_154 ?_
            refine lv_iload_n hx hb dX6_gossip_157 rfl (lv_at hl 5 rfl) ?_
            refine th_zald hx hb hK hP 13 rfl (j := j2) (by omega) (by omega) dX6_gossip_158 ?_
            refine th_ti (show (upd ala j1 (nI 1)) j2 = ala j2 from pk_un (by omega)) ?_
            rcases (hv.2.2.2.2.2 j2 j2b).2.2.2 with hb9 | hb9
            · have hb9z : ala j2 = nI 0 := (hv.2.2.2.2.2 j2 j2b).1.2.2.1.trans hb9
              refine th_ti (show ala j2 = nI 0 from hb9z) ?_
              refine th_zne (tgt := 167) hx hb dX6_gossip_159 (by decide) (by omega) (fun c_49 => by exfalso; omega) (fun c_49 => ?_)
              refine lv_iload hx hb dX6_gossip_162 (lv_at hl 0 rfl) ?_
              refine th_zne (tgt := 171) hx hb dX6_gossip_164 (by decide) (by omega) (fun c_50 => ?_) (fun c_50 => by exfalso; omega)
              refine lv_iconst (v := nI 0) hx hb dX6_gossip_171 (by decide) ?_
              refine th_zast hx hb hK hP hD hS 13 rfl (j := j2) (by omega) (by omega) (by first | exact Or.inl rfl | exact Or.inr rfl | assumption) dX6_gossip_172 (fun H locs hP hD hS => ?_)
              have hP : va_P Y.1 vwCl [(ro 0, .inr (6, [.int (nI 0), .ref (ro 1), .ref (ro 2), .int (nI S.1), .ref (ro 3), .ref (ro 4), .ref (ro 5), .int (nI S.2.2.2.1), .ref (ro 6), .ref (ro 7), .int stp, .int efr, .int esz, .int etr, .ref (ro 8), .ref (ro 9), .ref (ro 10), .ref (ro 11), .ref (ro 12), .ref (ro 13), .ref (ro 14), .ref (ro 15)])), (ro 1, .inl (Y.2 0, 300, .inl val)), (ro 2, .inl (Y.2 0, 3, .inl siz)), (ro 3, .inl (Y.2 0, 8, .inl z_32t)), (ro 4, .inl (Y.2 0, 8, .inl z_32s)), (ro 5, .inl (Y.2 0, 12, .inl pro)), (ro 6, .inl (Y.2 0, 12, .inl bes)), (ro 7, .inl (Y.2 1, 12, .inl isr)), (ro 8, .inl (Y.2 0, 64, .inl key)), (ro 9, .inl (Y.2 0, 64, .inl lev)), (ro 10, .inl (Y.2 0, 4, .inl kvi)), (ro 11, .inl (Y.2 0, 4, .inl ksz)), (ro 12, .inl (Y.2 0, 4, .inl krt)), (ro 13, .inl (Y.2 1, 4, .inl (upd (upd ala j1 (nI 1)) j2 (nI 0)))), (ro 14, .inl (Y.2 0, 4, .inl fol)), (ro 15, .inl (Y.2 0, 4, .inl cts))] _ := hP
              have hD : va_D _ [(ro 0, .inr (6, [.int (nI 0), .ref (ro 1), .ref (ro 2), .int (nI S.1), .ref (ro 3), .ref (ro 4), .ref (ro 5), .int (nI S.2.2.2.1), .ref (ro 6), .ref (ro 7), .int stp, .int efr, .int esz, .int etr, .ref (ro 8), .ref (ro 9), .ref (ro 10), .ref (ro 11), .ref (ro 12), .ref (ro 13), .ref (ro 14), .ref (ro 15)])), (ro 1, .inl (Y.2 0, 300, .inl val)), (ro 2, .inl (Y.2 0, 3, .inl siz)), (ro 3, .inl (Y.2 0, 8, .inl z_32t)), (ro 4, .inl (Y.2 0, 8, .inl z_32s)), (ro 5, .inl (Y.2 0, 12, .inl pro)), (ro 6, .inl (Y.2 0, 12, .inl bes)), (ro 7, .inl (Y.2 1, 12, .inl isr)), (ro 8, .inl (Y.2 0, 64, .inl key)), (ro 9, .inl (Y.2 0, 64, .inl lev)), (ro 10, .inl (Y.2 0, 4, .inl kvi)), (ro 11, .inl (Y.2 0, 4, .inl ksz)), (ro 12, .inl (Y.2 0, 4, .inl krt)), (ro 13, .inl (Y.2 1, 4, .inl (upd (upd ala j1 (nI 1)) j2 (nI 0)))), (ro 14, .inl (Y.2 0, 4, .inl fol)), (ro 15, .inl (Y.2 0, 4, .inl cts))] := hD
              refine lv_iload hx hb dX6_gossip_173 (lv_at hl 0 rfl) ?_
              refine th_zret hx hb hr hlk hQ hS dX6_gossip_175 (Nat.le_of_ble_eq_true rfl) (Nat.le_of_ble_eq_true rfl) (by first | exact Or.inl rfl | exact Or.inr rfl | assumption | exact th_b01 _) ?_
              show th_ro Y ro (_) _ _
              unfold sp_gossip
              simp only [zj1, zj2]
              rw [th_ifT ⟨q1, q2⟩]
              rw [th_ifT q3]
              exact th_roT (rfl) (th_rgI hP (th_RvA hv (fun a9 => (th_updS ((pk_un (by omega)).trans hb9z).symm a9).trans (th_updS ha9z.symm a9))))
              
            · have hb9z : ala j2 = nI 1 := (hv.2.2.2.2.2 j2 j2b).1.2.2.1.trans hb9
              refine th_ti (show ala j2 = nI 1 from hb9z) ?_
              refine th_zne (tgt := 167) hx hb dX6_gossip_159 (by decide) (by omega) (fun c_51 => ?_) (fun c_51 => by exfalso; omega)
              refine lv_iconst (v := nI 1) hx hb dX6_gossip_167 (by decide) ?_
              refine lv_goto (tgt := 172) hx hb dX6_gossip_168 (by decide) ?_
              refine th_zast hx hb hK hP hD hS 13 rfl (j := j2) (by omega) (by omega) (by first | exact Or.inl rfl | exact Or.inr rfl | assumption) dX6_gossip_172 (fun H locs hP hD hS => ?_)
              have hP : va_P Y.1 vwCl [(ro 0, .inr (6, [.int (nI 0), .ref (ro 1), .ref (ro 2), .int (nI S.1), .ref (ro 3), .ref (ro 4), .ref (ro 5), .int (nI S.2.2.2.1), .ref (ro 6), .ref (ro 7), .int stp, .int efr, .int esz, .int etr, .ref (ro 8), .ref (ro 9), .ref (ro 10), .ref (ro 11), .ref (ro 12), .ref (ro 13), .ref (ro 14), .ref (ro 15)])), (ro 1, .inl (Y.2 0, 300, .inl val)), (ro 2, .inl (Y.2 0, 3, .inl siz)), (ro 3, .inl (Y.2 0, 8, .inl z_32t)), (ro 4, .inl (Y.2 0, 8, .inl z_32s)), (ro 5, .inl (Y.2 0, 12, .inl pro)), (ro 6, .inl (Y.2 0, 12, .inl bes)), (ro 7, .inl (Y.2 1, 12, .inl isr)), (ro 8, .inl (Y.2 0, 64, .inl key)), (ro 9, .inl (Y.2 0, 64, .inl lev)), (ro 10, .inl (Y.2 0, 4, .inl kvi)), (ro 11, .inl (Y.2 0, 4, .inl ksz)), (ro 12, .inl (Y.2 0, 4, .inl krt)), (ro 13, .inl (Y.2 1, 4, .inl (upd (upd ala j1 (nI 1)) j2 (nI 1)))), (ro 14, .inl (Y.2 0, 4, .inl fol)), (ro 15, .inl (Y.2 0, 4, .inl cts))] _ := hP
              have hD : va_D _ [(ro 0, .inr (6, [.int (nI 0), .ref (ro 1), .ref (ro 2), .int (nI S.1), .ref (ro 3), .ref (ro 4), .ref (ro 5), .int (nI S.2.2.2.1), .ref (ro 6), .ref (ro 7), .int stp, .int efr, .int esz, .int etr, .ref (ro 8), .ref (ro 9), .ref (ro 10), .ref (ro 11), .ref (ro 12), .ref (ro 13), .ref (ro 14), .ref (ro 15)])), (ro 1, .inl (Y.2 0, 300, .inl val)), (ro 2, .inl (Y.2 0, 3, .inl siz)), (ro 3, .inl (Y.2 0, 8, .inl z_32t)), (ro 4, .inl (Y.2 0, 8, .inl z_32s)), (ro 5, .inl (Y.2 0, 12, .inl pro)), (ro 6, .inl (Y.2 0, 12, .inl bes)), (ro 7, .inl (Y.2 1, 12, .inl isr)), (ro 8, .inl (Y.2 0, 64, .inl key)), (ro 9, .inl (Y.2 0, 64, .inl lev)), (ro 10, .inl (Y.2 0, 4, .inl kvi)), (ro 11, .inl (Y.2 0, 4, .inl ksz)), (ro 12, .inl (Y.2 0, 4, .inl krt)), (ro 13, .inl (Y.2 1, 4, .inl (upd (upd ala j1 (nI 1)) j2 (nI 1)))), (ro 14, .inl (Y.2 0, 4, .inl fol)), (ro 15, .inl (Y.2 0, 4, .inl cts))] := hD
              refine lv_iload hx hb dX6_gossip_173 (lv_at hl 0 rfl) ?_
              refine th_zret hx hb hr hlk hQ hS dX6_gossip_175 (Nat.le_of_ble_eq_true rfl) (Nat.le_of_ble_eq_true rfl) (by first | exact Or.inl rfl | exact Or.inr rfl | assumption | exact th_b01 _) ?_
              show th_ro Y ro (_) _ _
              unfold sp_gossip
              simp only [zj1, zj2]
              rw [th_ifT ⟨q1, q2⟩]
              rw [th_ifT q3]
              exact th_roT (rfl) (th_rgI hP (th_RvA hv (fun a9 => (th_updS ((pk_un (by omega)).trans hb9z).symm a9).trans (th_updS ha9z.symm a9))))
              
    refine th_ti (th_bF q2) ?_
    refine th_zeq (tgt := 19) hx hb dX6_gossip_12 (by decide) (by omega) (fun c_52 => ?_) (fun c_52 => by exfalso; omega)
    refine lv_iconst (v := nI 1) hx hb dX6_gossip_19 (by decide) ?_
    refine th_callV hx hb hml hown hts ⟨hK, hN⟩ hl hS (hP 0 _ rfl) rfl (rest := []) (c_X6_goesWell l Y _ ro thr stp efr esz etr S.1 S.2.2.2.1 (hP.sub (ws' := [(ro 0, .inr (6, [.int thr, .ref (ro 1), .ref (ro 2), .int (nI S.1), .ref (ro 3), .ref (ro 4), .ref (ro 5), .int (nI S.2.2.2.1), .ref (ro 6), .ref (ro 7), .int stp, .int efr, .int esz, .int etr, .ref (ro 8), .ref (ro 9), .ref (ro 10), .ref (ro 11), .ref (ro 12), .ref (ro 13), .ref (ro 14), .ref (ro 15)]))]) [0] rfl) 1 (by omega)) ok_X6_goesWell tw_4_1 dX6_gossip_20 rfl rfl (Nat.le_of_ble_eq_true rfl) ⟨Nat.le_of_ble_eq_true rfl, Nat.le_of_ble_eq_true rfl⟩ ⟨Nat.le_of_ble_eq_true rfl, Nat.le_of_ble_eq_true rfl⟩ (th_subL [0] rfl) (th_ki (fun rz9 H locs hp hsm hS => ?_))
    obtain ⟨hrz, hPc⟩ := hp
    have hP : va_P Y.1 vwCl [(ro 0, .inr (6, [.int (nI 1), .ref (ro 1), .ref (ro 2), .int (nI S.1), .ref (ro 3), .ref (ro 4), .ref (ro 5), .int (nI S.2.2.2.1), .ref (ro 6), .ref (ro 7), .int stp, .int efr, .int esz, .int etr, .ref (ro 8), .ref (ro 9), .ref (ro 10), .ref (ro 11), .ref (ro 12), .ref (ro 13), .ref (ro 14), .ref (ro 15)])), (ro 1, .inl (Y.2 0, 300, .inl val)), (ro 2, .inl (Y.2 0, 3, .inl siz)), (ro 3, .inl (Y.2 0, 8, .inl tre)), (ro 4, .inl (Y.2 0, 8, .inl spa)), (ro 5, .inl (Y.2 0, 12, .inl pro)), (ro 6, .inl (Y.2 0, 12, .inl bes)), (ro 7, .inl (Y.2 1, 12, .inl isr)), (ro 8, .inl (Y.2 0, 64, .inl key)), (ro 9, .inl (Y.2 0, 64, .inl lev)), (ro 10, .inl (Y.2 0, 4, .inl kvi)), (ro 11, .inl (Y.2 0, 4, .inl ksz)), (ro 12, .inl (Y.2 0, 4, .inl krt)), (ro 13, .inl (Y.2 1, 4, .inl ala)), (ro 14, .inl (Y.2 0, 4, .inl fol)), (ro 15, .inl (Y.2 0, 4, .inl cts))] _ := (th_join (wr := [(ro 1, .inl (Y.2 0, 300, .inl val)), (ro 2, .inl (Y.2 0, 3, .inl siz)), (ro 3, .inl (Y.2 0, 8, .inl tre)), (ro 4, .inl (Y.2 0, 8, .inl spa)), (ro 5, .inl (Y.2 0, 12, .inl pro)), (ro 6, .inl (Y.2 0, 12, .inl bes)), (ro 7, .inl (Y.2 1, 12, .inl isr)), (ro 8, .inl (Y.2 0, 64, .inl key)), (ro 9, .inl (Y.2 0, 64, .inl lev)), (ro 10, .inl (Y.2 0, 4, .inl kvi)), (ro 11, .inl (Y.2 0, 4, .inl ksz)), (ro 12, .inl (Y.2 0, 4, .inl krt)), (ro 13, .inl (Y.2 1, 4, .inl ala)), (ro 14, .inl (Y.2 0, 4, .inl fol)), (ro 15, .inl (Y.2 0, 4, .inl cts))]) hP hD [1, 2, 3, 4, 5, 6, 7, 8, 9, 10, 11, 12, 13, 14, 15] [0] rfl rfl (by decide) hsm hPc).sub [15, 0, 1, 2, 3, 4, 5, 6, 7, 8, 9, 10, 11, 12, 13, 14] rfl
    have hD : va_D _ [(ro 0, .inr (6, [.int (nI 1), .ref (ro 1), .ref (ro 2), .int (nI S.1), .ref (ro 3), .ref (ro 4), .ref (ro 5), .int (nI S.2.2.2.1), .ref (ro 6), .ref (ro 7), .int stp, .int efr, .int esz, .int etr, .ref (ro 8), .ref (ro 9), .ref (ro 10), .ref (ro 11), .ref (ro 12), .ref (ro 13), .ref (ro 14), .ref (ro 15)])), (ro 1, .inl (Y.2 0, 300, .inl val)), (ro 2, .inl (Y.2 0, 3, .inl siz)), (ro 3, .inl (Y.2 0, 8, .inl tre)), (ro 4, .inl (Y.2 0, 8, .inl spa)), (ro 5, .inl (Y.2 0, 12, .inl pro)), (ro 6, .inl (Y.2 0, 12, .inl bes)), (ro 7, .inl (Y.2 1, 12, .inl isr)), (ro 8, .inl (Y.2 0, 64, .inl key)), (ro 9, .inl (Y.2 0, 64, .inl lev)), (ro 10, .inl (Y.2 0, 4, .inl kvi)), (ro 11, .inl (Y.2 0, 4, .inl ksz)), (ro 12, .inl (Y.2 0, 4, .inl krt)), (ro 13, .inl (Y.2 1, 4, .inl ala)), (ro 14, .inl (Y.2 0, 4, .inl fol)), (ro 15, .inl (Y.2 0, 4, .inl cts))] := th_Dsame hD rfl
    obtain rfl : rz9 = nI 0 := by rw [hrz]; rfl
    refine th_zne (tgt := 28) hx hb dX6_gossip_23 (by decide) (by omega) (fun c_53 => by exfalso; omega) (fun c_53 => ?_)
    refine lv_iconst (v := nI 0) hx hb dX6_gossip_26 (by decide) ?_
    refine th_zret hx hb hr hlk hQ hS dX6_gossip_27 (Nat.le_of_ble_eq_true rfl) (Nat.le_of_ble_eq_true rfl) (by first | exact Or.inl rfl | exact Or.inr rfl | assumption | exact th_b01 _) ?_
    show th_ro Y ro (_) _ _
    unfold sp_gossip
    simp only [zj1]
    rw [th_ifF (fun z9 => q2 z9.2)]
    exact th_roF (by decide) (th_rgI hP hv)
    
  refine th_ti (th_bF q1) ?_
  refine th_zeq (tgt := 19) hx hb dX6_gossip_5 (by decide) (by omega) (fun c_54 => ?_) (fun c_54 => by exfalso; omega)
  refine lv_iconst (v := nI 1) hx hb dX6_gossip_19 (by decide) ?_
  refine th_callV hx hb hml hown hts ⟨hK, hN⟩ hl hS (hP 0 _ rfl) rfl (rest := []) (c_X6_goesWell l Y _ ro thr stp efr esz etr S.1 S.2.2.2.1 (hP.sub (ws' := [(ro 0, .inr (6, [.int thr, .ref (ro 1), .ref (ro 2), .int (nI S.1), .ref (ro 3), .ref (ro 4), .ref (ro 5), .int (nI S.2.2.2.1), .ref (ro 6), .ref (ro 7), .int stp, .int efr, .int esz, .int etr, .ref (ro 8), .ref (ro 9), .ref (ro 10), .ref (ro 11), .ref (ro 12), .ref (ro 13), .ref (ro 14), .ref (ro 15)]))]) [0] rfl) 1 (by omega)) ok_X6_goesWell tw_4_1 dX6_gossip_20 rfl rfl (Nat.le_of_ble_eq_true rfl) ⟨Nat.le_of_ble_eq_true rfl, Nat.le_of_ble_eq_true rfl⟩ ⟨Nat.le_of_ble_eq_true rfl, Nat.le_of_ble_eq_true rfl⟩ (th_subL [0] rfl) (th_ki (fun rz9 H locs hp hsm hS => ?_))
  obtain ⟨hrz, hPc⟩ := hp
  have hP : va_P Y.1 vwCl [(ro 0, .inr (6, [.int (nI 1), .ref (ro 1), .ref (ro 2), .int (nI S.1), .ref (ro 3), .ref (ro 4), .ref (ro 5), .int (nI S.2.2.2.1), .ref (ro 6), .ref (ro 7), .int stp, .int efr, .int esz, .int etr, .ref (ro 8), .ref (ro 9), .ref (ro 10), .ref (ro 11), .ref (ro 12), .ref (ro 13), .ref (ro 14), .ref (ro 15)])), (ro 1, .inl (Y.2 0, 300, .inl val)), (ro 2, .inl (Y.2 0, 3, .inl siz)), (ro 3, .inl (Y.2 0, 8, .inl tre)), (ro 4, .inl (Y.2 0, 8, .inl spa)), (ro 5, .inl (Y.2 0, 12, .inl pro)), (ro 6, .inl (Y.2 0, 12, .inl bes)), (ro 7, .inl (Y.2 1, 12, .inl isr)), (ro 8, .inl (Y.2 0, 64, .inl key)), (ro 9, .inl (Y.2 0, 64, .inl lev)), (ro 10, .inl (Y.2 0, 4, .inl kvi)), (ro 11, .inl (Y.2 0, 4, .inl ksz)), (ro 12, .inl (Y.2 0, 4, .inl krt)), (ro 13, .inl (Y.2 1, 4, .inl ala)), (ro 14, .inl (Y.2 0, 4, .inl fol)), (ro 15, .inl (Y.2 0, 4, .inl cts))] _ := (th_join (wr := [(ro 1, .inl (Y.2 0, 300, .inl val)), (ro 2, .inl (Y.2 0, 3, .inl siz)), (ro 3, .inl (Y.2 0, 8, .inl tre)), (ro 4, .inl (Y.2 0, 8, .inl spa)), (ro 5, .inl (Y.2 0, 12, .inl pro)), (ro 6, .inl (Y.2 0, 12, .inl bes)), (ro 7, .inl (Y.2 1, 12, .inl isr)), (ro 8, .inl (Y.2 0, 64, .inl key)), (ro 9, .inl (Y.2 0, 64, .inl lev)), (ro 10, .inl (Y.2 0, 4, .inl kvi)), (ro 11, .inl (Y.2 0, 4, .inl ksz)), (ro 12, .inl (Y.2 0, 4, .inl krt)), (ro 13, .inl (Y.2 1, 4, .inl ala)), (ro 14, .inl (Y.2 0, 4, .inl fol)), (ro 15, .inl (Y.2 0, 4, .inl cts))]) hP hD [1, 2, 3, 4, 5, 6, 7, 8, 9, 10, 11, 12, 13, 14, 15] [0] rfl rfl (by decide) hsm hPc).sub [15, 0, 1, 2, 3, 4, 5, 6, 7, 8, 9, 10, 11, 12, 13, 14] rfl
  have hD : va_D _ [(ro 0, .inr (6, [.int (nI 1), .ref (ro 1), .ref (ro 2), .int (nI S.1), .ref (ro 3), .ref (ro 4), .ref (ro 5), .int (nI S.2.2.2.1), .ref (ro 6), .ref (ro 7), .int stp, .int efr, .int esz, .int etr, .ref (ro 8), .ref (ro 9), .ref (ro 10), .ref (ro 11), .ref (ro 12), .ref (ro 13), .ref (ro 14), .ref (ro 15)])), (ro 1, .inl (Y.2 0, 300, .inl val)), (ro 2, .inl (Y.2 0, 3, .inl siz)), (ro 3, .inl (Y.2 0, 8, .inl tre)), (ro 4, .inl (Y.2 0, 8, .inl spa)), (ro 5, .inl (Y.2 0, 12, .inl pro)), (ro 6, .inl (Y.2 0, 12, .inl bes)), (ro 7, .inl (Y.2 1, 12, .inl isr)), (ro 8, .inl (Y.2 0, 64, .inl key)), (ro 9, .inl (Y.2 0, 64, .inl lev)), (ro 10, .inl (Y.2 0, 4, .inl kvi)), (ro 11, .inl (Y.2 0, 4, .inl ksz)), (ro 12, .inl (Y.2 0, 4, .inl krt)), (ro 13, .inl (Y.2 1, 4, .inl ala)), (ro 14, .inl (Y.2 0, 4, .inl fol)), (ro 15, .inl (Y.2 0, 4, .inl cts))] := th_Dsame hD rfl
  obtain rfl : rz9 = nI 0 := by rw [hrz]; rfl
  refine th_zne (tgt := 28) hx hb dX6_gossip_23 (by decide) (by omega) (fun c_55 => by exfalso; omega) (fun c_55 => ?_)
  refine lv_iconst (v := nI 0) hx hb dX6_gossip_26 (by decide) ?_
  refine th_zret hx hb hr hlk hQ hS dX6_gossip_27 (Nat.le_of_ble_eq_true rfl) (Nat.le_of_ble_eq_true rfl) (by first | exact Or.inl rfl | exact Or.inr rfl | assumption | exact th_b01 _) ?_
  show th_ro Y ro (_) _ _
  unfold sp_gossip
  rw [th_ifF (fun z9 => q1 z9.1)]
  exact th_roF (by decide) (th_rgI hP hv)
  

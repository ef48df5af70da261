set_option maxRecDepth 100000 in
set_option maxHeartbeats 4000000 in
theorem c_X3_countNew_n (l : Launch) (Y : th_Y) (H0 : Heap) (wo : Nat) (rt9 al fo fd : Int32) (sz9 : Int32) (v a b n : Nat) (f g : Nat → Int32) (hP : va_P Y.1 vwCl [(wo, .inr (3, [.null, .int sz9, .int rt9, .int al, .int fo, .int fd])), (v, .inr (2, [.int (nI n), .ref a, .ref b])), (a, .inl (Y.2 0, 100, .inl f)), (b, .inl (Y.2 0, 256, .inl g))] H0) (hD0 : va_D (fun _ => True) [(wo, .inr (3, [.null, .int sz9, .int rt9, .int al, .int fo, .int fd])), (v, .inr (2, [.int (nI n), .ref a, .ref b])), (a, .inl (Y.2 0, 100, .inl f)), (b, .inl (Y.2 0, 256, .inl g))]) (hn : n ≤ 100) (hfn : ∀ i, i < n → f i ≠ -1) : th_M l Y yX3_countNew cX3_countNew 3 none (th_rm 1 0 0) [.ref wo, .ref v] H0 (fun z => z ∈ [wo, v, a, b]) (fun r' H' => r' = none ∧ va_P Y.1 vwCl [(wo, .inr (3, [.null, .int sz9, .int rt9, .int al, .int fo, .int (th_cf f fo fd 0 (n - 0))])), (v, .inr (2, [.int (nI n), .ref a, .ref b])), (a, .inl (Y.2 0, 100, .inl f)), (b, .inl (Y.2 0, 256, .inl g))] H') := by
  refine th_M.intro (by decide) (Nat.le_of_ble_eq_true rfl) ?_
  intro p e s m args below meth c ls Q hQ C hKN hl hS
  obtain ⟨hx, hb, hr, hml, hown, hts, hlk, hnm⟩ := C
  obtain ⟨hK, hN⟩ := hKN
  have hown : s.vm.findClass RX3 = some m.cls := hown
  have hl : lv_has ls 3 [(0, .ref wo), (1, .ref v)] := hl
  have hD : va_D (fun z => z ∈ [wo, v, a, b]) [(wo, .inr (3, [.null, .int sz9, .int rt9, .int al, .int fo, .int fd])), (v, .inr (2, [.int (nI n), .ref a, .ref b])), (a, .inl (Y.2 0, 100, .inl f)), (b, .inl (Y.2 0, 256, .inl g))] := th_mem hD0
  refine lv_aload_n hx hb dX3_countNew_0 rfl (lv_at hl 0 rfl) ?_
  refine va_get (D := Y.1) (ci := 3) (v := .int fo) (C := RX3) (T := TX3) (N := 6) hx hb hts inX3 hown hK hP 0 rfl rfl 4 (by decide) (hts _ tw_1_116) (fun _ h9 => h9) rfl dX3_countNew_1 ?_
  refine lv_iconst (v := -1) hx hb dX3_countNew_4 (by decide) ?_
  refine lv_icmp_ne (tgt := 9) hx hb dX3_countNew_5 (by decide) (fun c_1 => ?_) (fun c_1 => ?_)
  · skip
    refine lv_aload_n hx hb dX3_countNew_9 rfl (lv_at hl 0 rfl) ?_
    refine va_get (D := Y.1) (ci := 3) (v := .null) (C := RX3) (T := TX3) (N := 6) hx hb hts inX3 hown hK hP 0 rfl rfl 0 (by decide) (hts _ tw_1_109) (fun _ h9 => h9) rfl dX3_countNew_10 ?_
    refine lv_ifnonnullN hx hb dX3_countNew_13 ?_
    refine lv_iconst (v := nI 0) hx hb dX3_countNew_16 (by decide) ?_
    refine lv_goto (tgt := 24) hx hb dX3_countNew_17 (by decide) ?_
    refine lv_istore_n (lv' := [(2, .int (nI 0)), (0, .ref wo), (1, .ref v)]) hx hb dX3_countNew_24 rfl hl (by decide) rfl (fun ls hl => ?_)
    have lp_2 : ∀ (n_3 : Nat) (i : Nat) (x : Int32) (H : Heap) (locs : List Loc) (ls : Array Slot), n - i < n_3 → (i ≤ n) → (0 ≤ i) → (x = th_cf f fo fd 0 (i - 0)) → va_P Y.1 vwCl [(wo, .inr (3, [.null, .int sz9, .int rt9, .int al, .int fo, .int x])), (v, .inr (2, [.int (nI n), .ref a, .ref b])), (a, .inl (Y.2 0, 100, .inl f)), (b, .inl (Y.2 0, 256, .inl g))] H → va_D (fun z => z ∈ [wo, v, a, b]) [(wo, .inr (3, [.null, .int sz9, .int rt9, .int al, .int fo, .int x])), (v, .inr (2, [.int (nI n), .ref a, .ref b])), (a, .inl (Y.2 0, 100, .inl f)), (b, .inl (Y.2 0, 256, .inl g))] → va_S (fun z => z ∈ [wo, v, a, b]) H0 H locs → lv_has ls 3 [(0, .ref wo), (1, .ref v), (2, .int (nI i))] → W p l e (th_rm 1 0 0) s m args below meth c H locs 0 0 Q (F0 m 25 ls []) := by
      intro n_3; induction n_3 with
      | zero => intros; exfalso; omega
      | succ n_3 ih =>
        intro i x H locs ls hmz hi hlo hx9 hP hD hS hl
        refine lv_iload_n hx hb dX3_countNew_25 rfl (lv_at hl 2 rfl) ?_
        refine lv_aload_n hx hb dX3_countNew_26 rfl (lv_at hl 1 rfl) ?_
        refine va_getN (D := Y.1) (ci := 2) (v := .int (nI n)) (C := RX2) (T := TX2) (N := 3) hx hb hts inX2 hown hK hP 1 rfl rfl 0 (by decide) (va_Nw.use rfl (tn_1_93 hN)) (fun _ h9 => h9) rfl dX3_countNew_27 ?_
        refine th_ige (tgt := 61) hx hb dX3_countNew_30 (by decide) (by omega) (by omega) (fun c_4 => ?_) (fun c_4 => ?_)
        · skip
          refine th_vret hx hb hr hlk hQ hS dX3_countNew_61 (Nat.le_of_ble_eq_true rfl) (Nat.le_of_ble_eq_true rfl) ?_
          have zi : i = n := by omega
          rw [zi] at hx9
          rw [hx9] at hP
          exact ⟨rfl, hP⟩
        refine lv_aload_n hx hb dX3_countNew_33 rfl (lv_at hl 1 rfl) ?_
        refine lv_iload_n hx hb dX3_countNew_34 rfl (lv_at hl 2 rfl) ?_
        refine th_callV hx hb hml hown hts ⟨hK, hN⟩ hl hS (hP 1 _ rfl) rfl (rest := []) (c_X2_valueAt l Y _ v a b n f g (hP.sub (ws' := [(v, .inr (2, [.int (nI n), .ref a, .ref b])), (a, .inl (Y.2 0, 100, .inl f)), (b, .inl (Y.2 0, 256, .inl g))]) [1, 2, 3] rfl) i (by omega) (by omega)) ok_X2_valueAt tw_3_102 dX3_countNew_35 rfl rfl (Nat.le_of_ble_eq_true rfl) ⟨Nat.le_of_ble_eq_true rfl, Nat.le_of_ble_eq_true rfl⟩ ⟨Nat.le_of_ble_eq_true rfl, Nat.le_of_ble_eq_true rfl⟩ (fun _ h => h.elim) (th_kpi (fun locs hS => ?_))
        refine lv_aload_n hx hb dX3_countNew_38 rfl (lv_at hl 0 rfl) ?_
        refine va_get (D := Y.1) (ci := 3) (v := .int fo) (C := RX3) (T := TX3) (N := 6) hx hb hts inX3 hown hK hP 0 rfl rfl 4 (by decide) (hts _ tw_1_116) (fun _ h9 => h9) rfl dX3_countNew_39 ?_
        refine lv_icmp_ne (tgt := 55) hx hb dX3_countNew_42 (by decide) (fun c_5 => ?_) (fun c_5 => ?_)
        · skip
          refine lv_iinc (v := nI (i + 1)) (lv' := [(2, .int (nI (i + 1))), (0, .ref wo), (1, .ref v)]) hx hb dX3_countNew_55 hl (k := 2) rfl (nI_add _ 1) (by decide) rfl (fun ls hl => ?_)
          refine lv_goto (tgt := 25) hx hb dX3_countNew_58 (by decide) ?_
          exact ih (i + 1) (x) _ _ _ (by omega) (by omega) (by omega) ((th_cf_s hlo hx9).2 c_5) hP hD hS (lv_sub hl [1, 2, 0] rfl)
        refine lv_aload_n hx hb dX3_countNew_45 rfl (lv_at hl 0 rfl) ?_
        refine lv_dup hx hb dX3_countNew_46 rfl ?_
        refine va_get (D := Y.1) (ci := 3) (v := .int x) (C := RX3) (T := TX3) (N := 6) hx hb hts inX3 hown hK hP 0 rfl rfl 5 (by decide) (hts _ tw_1_118) (fun _ h9 => h9) rfl dX3_countNew_47 ?_
        refine lv_iconst (v := nI 1) hx hb dX3_countNew_50 (by decide) ?_
        refine lv_iadd hx hb dX3_countNew_51 ?_
        refine va_put (D := Y.1) (ci := 3) (v := .int (x + (nI 1))) (ty := .int) (C := RX3) (T := TX3) (N := 6) hx hb hts inX3 tyX3 tyX3_ok nmX3 hown hK hP hD hS 0 rfl rfl 5 (by decide) (hts _ tw_1_118) (fun _ h9 => h9) rfl (by decide +kernel) rfl rfl (Nat.le_of_ble_eq_true rfl) dX3_countNew_52 (fun H locs hP hD hS => ?_)
        have hP : va_P Y.1 vwCl [(wo, .inr (3, [.null, .int sz9, .int rt9, .int al, .int fo, .int (x + (nI 1))])), (v, .inr (2, [.int (nI n), .ref a, .ref b])), (a, .inl (Y.2 0, 100, .inl f)), (b, .inl (Y.2 0, 256, .inl g))] _ := hP
        have hD : va_D _ [(wo, .inr (3, [.null, .int sz9, .int rt9, .int al, .int fo, .int (x + (nI 1))])), (v, .inr (2, [.int (nI n), .ref a, .ref b])), (a, .inl (Y.2 0, 100, .inl f)), (b, .inl (Y.2 0, 256, .inl g))] := hD
        refine lv_iinc (v := nI (i + 1)) (lv' := [(2, .int (nI (i + 1))), (0, .ref wo), (1, .ref v)]) hx hb dX3_countNew_55 hl (k := 2) rfl (nI_add _ 1) (by decide) rfl (fun ls hl => ?_)
        refine lv_goto (tgt := 25) hx hb dX3_countNew_58 (by decide) ?_
        exact ih (i + 1) (x + (nI 1)) _ _ _ (by omega) (by omega) (by omega) ((th_cf_s hlo hx9).1 c_5) hP hD hS (lv_sub hl [1, 2, 0] rfl)
    exact lp_2 ((n - (0)) + 1) (0) (fd) _ _ _ (Nat.lt_succ_self _) (by omega) (by omega) (by rw [Nat.sub_self]; rfl) hP hD hS (lv_sub hl [1, 2, 0] rfl)
  refine th_vret hx hb hr hlk hQ hS dX3_countNew_8 (Nat.le_of_ble_eq_true rfl) (Nat.le_of_ble_eq_true rfl) ?_
  refine ⟨rfl, ?_⟩
  rw [th_cf_no _ (fun i hi => by rw [c_1]; exact hfn _ (by omega))]
  exact hP

set_option maxRecDepth 100000 in
set_option maxHeartbeats 4000000 in
theorem c_X3_look_n (l : Launch) (Y : th_Y) (H0 : Heap) (wo : Nat) (rt9 al fo fd : Int32) (sz9 : Int32) (v a b n : Nat) (f g : Nat → Int32) (hP : va_P Y.1 vwCl [(wo, .inr (3, [.null, .int sz9, .int rt9, .int al, .int fo, .int fd])), (v, .inr (2, [.int (nI n), .ref a, .ref b])), (a, .inl (Y.2 0, 100, .inl f)), (b, .inl (Y.2 0, 256, .inl g))] H0) (hD0 : va_D (fun _ => True) [(wo, .inr (3, [.null, .int sz9, .int rt9, .int al, .int fo, .int fd])), (v, .inr (2, [.int (nI n), .ref a, .ref b])), (a, .inl (Y.2 0, 100, .inl f)), (b, .inl (Y.2 0, 256, .inl g))]) (hn : n ≤ 100) (hfn : ∀ i, i < n → f i ≠ -1) (hB : th_BI f g n) : th_M l Y yX3_look cX3_look 3 (some .boolean) (th_rm 3 0 0) [.ref wo, .ref v] H0 (fun z => z ∈ [wo, v, a, b]) (fun r' H' => ∃ x' : Int32, r' = some (.int x') ∧ (((True) ∧ x' = nI 1 ∧ va_P Y.1 vwCl [(wo, .inr (3, [.ref v, .int (nI n), .int (th_rt f 0 n), .int al, .int fo, .int (th_cf f fo fd 0 (n - 0))])), (v, .inr (2, [.int (nI n), .ref a, .ref b])), (a, .inl (Y.2 0, 100, .inl f)), (b, .inl (Y.2 0, 256, .inl g))] H') ∨ (¬ (True) ∧ x' = nI 0 ∧ va_P Y.1 vwCl [(wo, .inr (3, [.null, .int sz9, .int rt9, .int (nI 1), .int fo, .int fd])), (v, .inr (2, [.int (nI n), .ref a, .ref b])), (a, .inl (Y.2 0, 100, .inl f)), (b, .inl (Y.2 0, 256, .inl g))] H'))) := by
  refine th_M.intro (by decide) (Nat.le_of_ble_eq_true rfl) ?_
  intro p e s m args below meth c ls Q hQ C hKN hl hS
  obtain ⟨hx, hb, hr, hml, hown, hts, hlk, hnm⟩ := C
  obtain ⟨hK, hN⟩ := hKN
  have hown : s.vm.findClass RX3 = some m.cls := hown
  have hl : lv_has ls 3 [(0, .ref wo), (1, .ref v)] := hl
  have hD : va_D (fun z => z ∈ [wo, v, a, b]) [(wo, .inr (3, [.null, .int sz9, .int rt9, .int al, .int fo, .int fd])), (v, .inr (2, [.int (nI n), .ref a, .ref b])), (a, .inl (Y.2 0, 100, .inl f)), (b, .inl (Y.2 0, 256, .inl g))] := th_mem hD0
  refine lv_aload_n hx hb dX3_look_0 rfl (lv_at hl 0 rfl) ?_
  refine va_get (D := Y.1) (ci := 3) (v := .null) (C := RX3) (T := TX3) (N := 6) hx hb hts inX3 hown hK hP 0 rfl rfl 0 (by decide) (hts _ tw_1_109) (fun _ h9 => h9) rfl dX3_look_1 ?_
  refine lv_ifnullN (tgt := 33) hx hb dX3_look_4 (by decide) ?_
  refine lv_iconst (v := nI 1) hx hb dX3_look_33 (by decide) ?_
  refine lv_goto (tgt := 38) hx hb dX3_look_34 (by decide) ?_
  refine lv_istore_n (lv' := [(2, .int (nI 1)), (0, .ref wo), (1, .ref v)]) hx hb dX3_look_38 rfl hl (by decide) rfl (fun ls hl => ?_)
  refine lv_iload_n hx hb dX3_look_39 rfl (lv_at hl 0 rfl) ?_
  refine th_zeq (tgt := 76) hx hb dX3_look_40 (by decide) (by omega) (fun c_1 => by exfalso; omega) (fun c_1 => ?_)
  refine lv_aload_n hx hb dX3_look_43 rfl (lv_at hl 1 rfl) ?_
  refine lv_aload_n hx hb dX3_look_44 rfl (lv_at hl 2 rfl) ?_
  refine th_callV hx hb hml hown hts ⟨hK, hN⟩ hl hS (hP 0 _ rfl) rfl (rest := []) (c_X3_countNew_n l Y _ wo rt9 al fo fd sz9 v a b n f g hP ((hD.sub (ws' := [(wo, .inr (3, [.null, .int sz9, .int rt9, .int al, .int fo, .int fd])), (v, .inr (2, [.int (nI n), .ref a, .ref b])), (a, .inl (Y.2 0, 100, .inl f)), (b, .inl (Y.2 0, 256, .inl g))]) [0, 1, 2, 3] (by decide) rfl).weaken (fun _ _ _ _ => trivial)) (by omega) hfn) ok_X3_countNew tw_3_98 dX3_look_45 rfl rfl (Nat.le_of_ble_eq_true rfl) ⟨Nat.le_of_ble_eq_true rfl, Nat.le_of_ble_eq_true rfl⟩ ⟨Nat.le_of_ble_eq_true rfl, Nat.le_of_ble_eq_true rfl⟩ (fun z hz => by simp only [List.mem_cons, List.not_mem_nil, or_false] at hz ⊢; omega) (th_kv (fun H locs hp hsm hS => ?_))
  have hPc := hp
  have hP : va_P Y.1 vwCl [(wo, .inr (3, [.null, .int sz9, .int rt9, .int al, .int fo, .int (th_cf f fo fd 0 (n - 0))])), (v, .inr (2, [.int (nI n), .ref a, .ref b])), (a, .inl (Y.2 0, 100, .inl f)), (b, .inl (Y.2 0, 256, .inl g))] _ := hPc
  have hD : va_D _ [(wo, .inr (3, [.null, .int sz9, .int rt9, .int al, .int fo, .int (th_cf f fo fd 0 (n - 0))])), (v, .inr (2, [.int (nI n), .ref a, .ref b])), (a, .inl (Y.2 0, 100, .inl f)), (b, .inl (Y.2 0, 256, .inl g))] := th_Dsame hD rfl
  refine lv_aload_n hx hb dX3_look_48 rfl (lv_at hl 1 rfl) ?_
  refine lv_aload_n hx hb dX3_look_49 rfl (lv_at hl 2 rfl) ?_
  refine va_put (D := Y.1) (ci := 3) (v := .ref v) (ty := .object "TreeheadGallery$View") (C := RX3) (T := TX3) (N := 6) hx hb hts inX3 tyX3 tyX3_ok nmX3 hown hK hP hD hS 0 rfl rfl 0 (by decide) (hts _ tw_1_109) (fun _ h9 => h9) rfl (by decide +kernel) rfl rfl (Nat.le_of_ble_eq_true rfl) dX3_look_50 (fun H locs hP hD hS => ?_)
  have hP : va_P Y.1 vwCl [(wo, .inr (3, [.ref v, .int sz9, .int rt9, .int al, .int fo, .int (th_cf f fo fd 0 (n - 0))])), (v, .inr (2, [.int (nI n), .ref a, .ref b])), (a, .inl (Y.2 0, 100, .inl f)), (b, .inl (Y.2 0, 256, .inl g))] _ := hP
  have hD : va_D _ [(wo, .inr (3, [.ref v, .int sz9, .int rt9, .int al, .int fo, .int (th_cf f fo fd 0 (n - 0))])), (v, .inr (2, [.int (nI n), .ref a, .ref b])), (a, .inl (Y.2 0, 100, .inl f)), (b, .inl (Y.2 0, 256, .inl g))] := hD
  refine lv_aload_n hx hb dX3_look_53 rfl (lv_at hl 1 rfl) ?_
  refine lv_aload_n hx hb dX3_look_54 rfl (lv_at hl 2 rfl) ?_
  refine va_getN (D := Y.1) (ci := 2) (v := .int (nI n)) (C := RX2) (T := TX2) (N := 3) hx hb hts inX2 hown hK hP 1 rfl rfl 0 (by decide) (va_Nw.use rfl (tn_1_93 hN)) (fun _ h9 => h9) rfl dX3_look_55 ?_
  refine va_put (D := Y.1) (ci := 3) (v := .int (nI n)) (ty := .int) (C := RX3) (T := TX3) (N := 6) hx hb hts inX3 tyX3 tyX3_ok nmX3 hown hK hP hD hS 0 rfl rfl 1 (by decide) (hts _ tw_1_110) (fun _ h9 => h9) rfl (by decide +kernel) rfl rfl (Nat.le_of_ble_eq_true rfl) dX3_look_58 (fun H locs hP hD hS => ?_)
  have hP : va_P Y.1 vwCl [(wo, .inr (3, [.ref v, .int (nI n), .int rt9, .int al, .int fo, .int (th_cf f fo fd 0 (n - 0))])), (v, .inr (2, [.int (nI n), .ref a, .ref b])), (a, .inl (Y.2 0, 100, .inl f)), (b, .inl (Y.2 0, 256, .inl g))] _ := hP
  have hD : va_D _ [(wo, .inr (3, [.ref v, .int (nI n), .int rt9, .int al, .int fo, .int (th_cf f fo fd 0 (n - 0))])), (v, .inr (2, [.int (nI n), .ref a, .ref b])), (a, .inl (Y.2 0, 100, .inl f)), (b, .inl (Y.2 0, 256, .inl g))] := hD
  refine lv_aload_n hx hb dX3_look_61 rfl (lv_at hl 1 rfl) ?_
  refine lv_aload_n hx hb dX3_look_62 rfl (lv_at hl 2 rfl) ?_
  refine lv_aload_n hx hb dX3_look_63 rfl (lv_at hl 1 rfl) ?_
  refine va_get (D := Y.1) (ci := 3) (v := .int (nI n)) (C := RX3) (T := TX3) (N := 6) hx hb hts inX3 hown hK hP 0 rfl rfl 1 (by decide) (hts _ tw_1_110) (fun _ h9 => h9) rfl dX3_look_64 ?_
  refine th_callV hx hb hml hown hts ⟨hK, hN⟩ hl hS (hP 1 _ rfl) rfl (rest := [.ref wo]) (c_X2_rootAt l Y _ v a b n f g (hP.sub (ws' := [(v, .inr (2, [.int (nI n), .ref a, .ref b])), (a, .inl (Y.2 0, 100, .inl f)), (b, .inl (Y.2 0, 256, .inl g))]) [1, 2, 3] rfl) n (by omega) (by omega) hB) ok_X2_rootAt tw_3_97 dX3_look_67 rfl rfl (Nat.le_of_ble_eq_true rfl) ⟨Nat.le_of_ble_eq_true rfl, Nat.le_of_ble_eq_true rfl⟩ ⟨Nat.le_of_ble_eq_true rfl, Nat.le_of_ble_eq_true rfl⟩ (fun _ h => h.elim) (th_kpi (fun locs hS => ?_))
  refine va_put (D := Y.1) (ci := 3) (v := .int (th_rt f 0 n)) (ty := .int) (C := RX3) (T := TX3) (N := 6) hx hb hts inX3 tyX3 tyX3_ok nmX3 hown hK hP hD hS 0 rfl rfl 2 (by decide) (hts _ tw_1_112) (fun _ h9 => h9) rfl (by decide +kernel) rfl rfl (Nat.le_of_ble_eq_true rfl) dX3_look_70 (fun H locs hP hD hS => ?_)
  have hP : va_P Y.1 vwCl [(wo, .inr (3, [.ref v, .int (nI n), .int (th_rt f 0 n), .int al, .int fo, .int (th_cf f fo fd 0 (n - 0))])), (v, .inr (2, [.int (nI n), .ref a, .ref b])), (a, .inl (Y.2 0, 100, .inl f)), (b, .inl (Y.2 0, 256, .inl g))] _ := hP
  have hD : va_D _ [(wo, .inr (3, [.ref v, .int (nI n), .int (th_rt f 0 n), .int al, .int fo, .int (th_cf f fo fd 0 (n - 0))])), (v, .inr (2, [.int (nI n), .ref a, .ref b])), (a, .inl (Y.2 0, 100, .inl f)), (b, .inl (Y.2 0, 256, .inl g))] := hD
  refine lv_goto (tgt := 81) hx hb dX3_look_73 (by decide) ?_
  refine lv_iload_n hx hb dX3_look_81 rfl (lv_at hl 0 rfl) ?_
  refine th_zret hx hb hr hlk hQ hS dX3_look_82 (Nat.le_of_ble_eq_true rfl) (Nat.le_of_ble_eq_true rfl) (by first | exact Or.inl rfl | exact Or.inr rfl | assumption) ?_
  exact ⟨_, rfl, Or.inl ⟨trivial, rfl, hP⟩⟩

set_option maxRecDepth 100000 in
set_option maxHeartbeats 4000000 in
theorem c_X3_countNew_s (l : Launch) (Y : th_Y) (H0 : Heap) (wo : Nat) (rt9 al fo fd : Int32) (kr ks9 : Nat) (v a b n : Nat) (f g : Nat → Int32) (hP : va_P Y.1 vwCl [(wo, .inr (3, [.ref kr, .int (nI ks9), .int rt9, .int al, .int fo, .int fd])), (v, .inr (2, [.int (nI n), .ref a, .ref b])), (a, .inl (Y.2 0, 100, .inl f)), (b, .inl (Y.2 0, 256, .inl g))] H0) (hD0 : va_D (fun _ => True) [(wo, .inr (3, [.ref kr, .int (nI ks9), .int rt9, .int al, .int fo, .int fd])), (v, .inr (2, [.int (nI n), .ref a, .ref b])), (a, .inl (Y.2 0, 100, .inl f)), (b, .inl (Y.2 0, 256, .inl g))]) (hn : n ≤ 100) (hfn : ∀ i, i < n → f i ≠ -1) (hks : ks9 ≤ n) : th_M l Y yX3_countNew cX3_countNew 3 none (th_rm 1 0 0) [.ref wo, .ref v] H0 (fun z => z ∈ [wo, v, a, b]) (fun r' H' => r' = none ∧ va_P Y.1 vwCl [(wo, .inr (3, [.ref kr, .int (nI ks9), .int rt9, .int al, .int fo, .int (th_cf f fo fd ks9 (n - ks9))])), (v, .inr (2, [.int (nI n), .ref a, .ref b])), (a, .inl (Y.2 0, 100, .inl f)), (b, .inl (Y.2 0, 256, .inl g))] H') := by
  refine th_M.intro (by decide) (Nat.le_of_ble_eq_true rfl) ?_
  intro p e s m args below meth c ls Q hQ C hKN hl hS
  obtain ⟨hx, hb, hr, hml, hown, hts, hlk, hnm⟩ := C
  obtain ⟨hK, hN⟩ := hKN
  have hown : s.vm.findClass RX3 = some m.cls := hown
  have hl : lv_has ls 3 [(0, .ref wo), (1, .ref v)] := hl
  have hD : va_D (fun z => z ∈ [wo, v, a, b]) [(wo, .inr (3, [.ref kr, .int (nI ks9), .int rt9, .int al, .int fo, .int fd])), (v, .inr (2, [.int (nI n), .ref a, .ref b])), (a, .inl (Y.2 0, 100, .inl f)), (b, .inl (Y.2 0, 256, .inl g))] := th_mem hD0
  refine lv_aload_n hx hb dX3_countNew_0 rfl (lv_at hl 0 rfl) ?_
  refine va_get (D := Y.1) (ci := 3) (v := .int fo) (C := RX3) (T := TX3) (N := 6) hx hb hts inX3 hown hK hP 0 rfl rfl 4 (by decide) (hts _ tw_1_116) (fun _ h9 => h9) rfl dX3_countNew_1 ?_
  refine lv_iconst (v := -1) hx hb dX3_countNew_4 (by decide) ?_
  refine lv_icmp_ne (tgt := 9) hx hb dX3_countNew_5 (by decide) (fun c_1 => ?_) (fun c_1 => ?_)
  · skip
    refine lv_aload_n hx hb dX3_countNew_9 rfl (lv_at hl 0 rfl) ?_
    refine va_get (D := Y.1) (ci := 3) (v := .ref kr) (C := RX3) (T := TX3) (N := 6) hx hb hts inX3 hown hK hP 0 rfl rfl 0 (by decide) (hts _ tw_1_109) (fun _ h9 => h9) rfl dX3_countNew_10 ?_
    refine lv_ifnonnull (tgt := 20) hx hb dX3_countNew_13 (by decide) ?_
    refine lv_aload_n hx hb dX3_countNew_20 rfl (lv_at hl 0 rfl) ?_
    refine va_get (D := Y.1) (ci := 3) (v := .int (nI ks9)) (C := RX3) (T := TX3) (N := 6) hx hb hts inX3 hown hK hP 0 rfl rfl 1 (by decide) (hts _ tw_1_110) (fun _ h9 => h9) rfl dX3_countNew_21 ?_
    refine lv_istore_n (lv' := [(2, .int (nI ks9)), (0, .ref wo), (1, .ref v)]) hx hb dX3_countNew_24 rfl hl (by decide) rfl (fun ls hl => ?_)
    have lp_2 : ∀ (n_3 : Nat) (i : Nat) (x : Int32) (H : Heap) (locs : List Loc) (ls : Array Slot), n - i < n_3 → (i ≤ n) → (ks9 ≤ i) → (x = th_cf f fo fd ks9 (i - ks9)) → va_P Y.1 vwCl [(wo, .inr (3, [.ref kr, .int (nI ks9), .int rt9, .int al, .int fo, .int x])), (v, .inr (2, [.int (nI n), .ref a, .ref b])), (a, .inl (Y.2 0, 100, .inl f)), (b, .inl (Y.2 0, 256, .inl g))] H → va_D (fun z => z ∈ [wo, v, a, b]) [(wo, .inr (3, [.ref kr, .int (nI ks9), .int rt9, .int al, .int fo, .int x])), (v, .inr (2, [.int (nI n), .ref a, .ref b])), (a, .inl (Y.2 0, 100, .inl f)), (b, .inl (Y.2 0, 256, .inl g))] → va_S (fun z => z ∈ [wo, v, a, b]) H0 H locs → lv_has ls 3 [(0, .ref wo), (1, .ref v), (2, .int (nI i))] → W p l e (th_rm 1 0 0) s m args below meth c H locs 0 0 Q (F0 m 25 ls []) := by
      intro n_3; induction n_3 with
      | zero => intros; exfalso; omega
      | succ n_3 ih =>
        intro i x H locs ls hmz hi hlo hx9 hP hD hS hl
        refine lv_iload_n hx hb dX3_countNew_25 rfl (lv_at hl 2 rfl) ?_
        refine lv_aload_n hx hb dX3_countNew_26 rfl (lv_at hl 1 rfl) ?_
        refine va_getN (D := Y.1) (ci := 2) (v := .int (nI n)) (C := RX2) (T := TX2) (N := 3) hx hb hts inX2 hown hK hP 1 rfl rfl 0 (by decide) (va_Nw.use rfl (tn_1_93 hN)) (fun _ h9 => h9) rfl dX3_countNew_27 ?_
        refine th_ige (tgt := 61) hx hb dX3_countNew_30 (by decide) (by omega) (by omega) (fun c_4 => ?_) (fun c_4 => ?_)
        · skip
          refine th_vret hx hb hr hlk hQ hS dX3_countNew_61 (Nat.le_of_ble_eq_true rfl) (Nat.le_of_ble_eq_true rfl) ?_
          have zi : i = n := by omega
          rw [zi] at hx9
          rw [hx9] at hP
          exact ⟨rfl, hP⟩
        refine lv_aload_n hx hb dX3_countNew_33 rfl (lv_at hl 1 rfl) ?_
        refine lv_iload_n hx hb dX3_countNew_34 rfl (lv_at hl 2 rfl) ?_
        refine th_callV hx hb hml hown hts ⟨hK, hN⟩ hl hS (hP 1 _ rfl) rfl (rest := []) (c_X2_valueAt l Y _ v a b n f g (hP.sub (ws' := [(v, .inr (2, [.int (nI n), .ref a, .ref b])), (a, .inl (Y.2 0, 100, .inl f)), (b, .inl (Y.2 0, 256, .inl g))]) [1, 2, 3] rfl) i (by omega) (by omega)) ok_X2_valueAt tw_3_102 dX3_countNew_35 rfl rfl (Nat.le_of_ble_eq_true rfl) ⟨Nat.le_of_ble_eq_true rfl, Nat.le_of_ble_eq_true rfl⟩ ⟨Nat.le_of_ble_eq_true rfl, Nat.le_of_ble_eq_true rfl⟩ (fun _ h => h.elim) (th_kpi (fun locs hS => ?_))
        refine lv_aload_n hx hb dX3_countNew_38 rfl (lv_at hl 0 rfl) ?_
        refine va_get (D := Y.1) (ci := 3) (v := .int fo) (C := RX3) (T := TX3) (N := 6) hx hb hts inX3 hown hK hP 0 rfl rfl 4 (by decide) (hts _ tw_1_116) (fun _ h9 => h9) rfl dX3_countNew_39 ?_
        refine lv_icmp_ne (tgt := 55) hx hb dX3_countNew_42 (by decide) (fun c_5 => ?_) (fun c_5 => ?_)
        · skip
          refine lv_iinc (v := nI (i + 1)) (lv' := [(2, .int (nI (i + 1))), (0, .ref wo), (1, .ref v)]) hx hb dX3_countNew_55 hl (k := 2) rfl (nI_add _ 1) (by decide) rfl (fun ls hl => ?_)
          refine lv_goto (tgt := 25) hx hb dX3_countNew_58 (by decide) ?_
          exact ih (i + 1) (x) _ _ _ (by omega) (by omega) (by omega) ((th_cf_s hlo hx9).2 c_5) hP hD hS (lv_sub hl [1, 2, 0] rfl)
        refine lv_aload_n hx hb dX3_countNew_45 rfl (lv_at hl 0 rfl) ?_
        refine lv_dup hx hb dX3_countNew_46 rfl ?_
        refine va_get (D := Y.1) (ci := 3) (v := .int x) (C := RX3) (T := TX3) (N := 6) hx hb hts inX3 hown hK hP 0 rfl rfl 5 (by decide) (hts _ tw_1_118) (fun _ h9 => h9) rfl dX3_countNew_47 ?_
        refine lv_iconst (v := nI 1) hx hb dX3_countNew_50 (by decide) ?_
        refine lv_iadd hx hb dX3_countNew_51 ?_
        refine va_put (D := Y.1) (ci := 3) (v := .int (x + (nI 1))) (ty := .int) (C := RX3) (T := TX3) (N := 6) hx hb hts inX3 tyX3 tyX3_ok nmX3 hown hK hP hD hS 0 rfl rfl 5 (by decide) (hts _ tw_1_118) (fun _ h9 => h9) rfl (by decide +kernel) rfl rfl (Nat.le_of_ble_eq_true rfl) dX3_countNew_52 (fun H locs hP hD hS => ?_)
        have hP : va_P Y.1 vwCl [(wo, .inr (3, [.ref kr, .int (nI ks9), .int rt9, .int al, .int fo, .int (x + (nI 1))])), (v, .inr (2, [.int (nI n), .ref a, .ref b])), (a, .inl (Y.2 0, 100, .inl f)), (b, .inl (Y.2 0, 256, .inl g))] _ := hP
        have hD : va_D _ [(wo, .inr (3, [.ref kr, .int (nI ks9), .int rt9, .int al, .int fo, .int (x + (nI 1))])), (v, .inr (2, [.int (nI n), .ref a, .ref b])), (a, .inl (Y.2 0, 100, .inl f)), (b, .inl (Y.2 0, 256, .inl g))] := hD
        refine lv_iinc (v := nI (i + 1)) (lv' := [(2, .int (nI (i + 1))), (0, .ref wo), (1, .ref v)]) hx hb dX3_countNew_55 hl (k := 2) rfl (nI_add _ 1) (by decide) rfl (fun ls hl => ?_)
        refine lv_goto (tgt := 25) hx hb dX3_countNew_58 (by decide) ?_
        exact ih (i + 1) (x + (nI 1)) _ _ _ (by omega) (by omega) (by omega) ((th_cf_s hlo hx9).1 c_5) hP hD hS (lv_sub hl [1, 2, 0] rfl)
    exact lp_2 ((n - (ks9)) + 1) (ks9) (fd) _ _ _ (Nat.lt_succ_self _) (by omega) (by omega) (by rw [Nat.sub_self]; rfl) hP hD hS (lv_sub hl [1, 2, 0] rfl)
  refine th_vret hx hb hr hlk hQ hS dX3_countNew_8 (Nat.le_of_ble_eq_true rfl) (Nat.le_of_ble_eq_true rfl) ?_
  refine ⟨rfl, ?_⟩
  rw [th_cf_no _ (fun i hi => by rw [c_1]; exact hfn _ (by omega))]
  exact hP

set_option maxRecDepth 100000 in
set_option maxHeartbeats 4000000 in
theorem c_X3_look_s (l : Launch) (Y : th_Y) (H0 : Heap) (wo : Nat) (rt9 al fo fd : Int32) (kr ks9 : Nat) (v a b n : Nat) (f g : Nat → Int32) (hP : va_P Y.1 vwCl [(wo, .inr (3, [.ref kr, .int (nI ks9), .int rt9, .int al, .int fo, .int fd])), (v, .inr (2, [.int (nI n), .ref a, .ref b])), (a, .inl (Y.2 0, 100, .inl f)), (b, .inl (Y.2 0, 256, .inl g))] H0) (hD0 : va_D (fun _ => True) [(wo, .inr (3, [.ref kr, .int (nI ks9), .int rt9, .int al, .int fo, .int fd])), (v, .inr (2, [.int (nI n), .ref a, .ref b])), (a, .inl (Y.2 0, 100, .inl f)), (b, .inl (Y.2 0, 256, .inl g))]) (hn : n ≤ 100) (hfn : ∀ i, i < n → f i ≠ -1) (hB : th_BI f g n) (hk1 : ks9 ≤ 100) : th_M l Y yX3_look cX3_look 3 (some .boolean) (th_rm 3 0 0) [.ref wo, .ref v] H0 (fun z => z ∈ [wo, v, a, b]) (fun r' H' => ∃ x' : Int32, r' = some (.int x') ∧ (((ks9 ≤ n ∧ th_rt f 0 ks9 = rt9) ∧ x' = nI 1 ∧ va_P Y.1 vwCl [(wo, .inr (3, [.ref v, .int (nI n), .int (th_rt f 0 n), .int al, .int fo, .int (th_cf f fo fd ks9 (n - ks9))])), (v, .inr (2, [.int (nI n), .ref a, .ref b])), (a, .inl (Y.2 0, 100, .inl f)), (b, .inl (Y.2 0, 256, .inl g))] H') ∨ (¬ (ks9 ≤ n ∧ th_rt f 0 ks9 = rt9) ∧ x' = nI 0 ∧ va_P Y.1 vwCl [(wo, .inr (3, [.ref kr, .int (nI ks9), .int rt9, .int (nI 1), .int fo, .int fd])), (v, .inr (2, [.int (nI n), .ref a, .ref b])), (a, .inl (Y.2 0, 100, .inl f)), (b, .inl (Y.2 0, 256, .inl g))] H'))) := by
  refine th_M.intro (by decide) (Nat.le_of_ble_eq_true rfl) ?_
  intro p e s m args below meth c ls Q hQ C hKN hl hS
  obtain ⟨hx, hb, hr, hml, hown, hts, hlk, hnm⟩ := C
  obtain ⟨hK, hN⟩ := hKN
  have hown : s.vm.findClass RX3 = some m.cls := hown
  have hl : lv_has ls 3 [(0, .ref wo), (1, .ref v)] := hl
  have hD : va_D (fun z => z ∈ [wo, v, a, b]) [(wo, .inr (3, [.ref kr, .int (nI ks9), .int rt9, .int al, .int fo, .int fd])), (v, .inr (2, [.int (nI n), .ref a, .ref b])), (a, .inl (Y.2 0, 100, .inl f)), (b, .inl (Y.2 0, 256, .inl g))] := th_mem hD0
  refine lv_aload_n hx hb dX3_look_0 rfl (lv_at hl 0 rfl) ?_
  refine va_get (D := Y.1) (ci := 3) (v := .ref kr) (C := RX3) (T := TX3) (N := 6) hx hb hts inX3 hown hK hP 0 rfl rfl 0 (by decide) (hts _ tw_1_109) (fun _ h9 => h9) rfl dX3_look_1 ?_
  refine lv_ifnull hx hb dX3_look_4 ?_
  refine lv_aload_n hx hb dX3_look_7 rfl (lv_at hl 1 rfl) ?_
  refine va_getN (D := Y.1) (ci := 2) (v := .int (nI n)) (C := RX2) (T := TX2) (N := 3) hx hb hts inX2 hown hK hP 1 rfl rfl 0 (by decide) (va_Nw.use rfl (tn_1_93 hN)) (fun _ h9 => h9) rfl dX3_look_8 ?_
  refine lv_aload_n hx hb dX3_look_11 rfl (lv_at hl 0 rfl) ?_
  refine va_get (D := Y.1) (ci := 3) (v := .int (nI ks9)) (C := RX3) (T := TX3) (N := 6) hx hb hts inX3 hown hK hP 0 rfl rfl 1 (by decide) (hts _ tw_1_110) (fun _ h9 => h9) rfl dX3_look_12 ?_
  refine th_ilt (tgt := 37) hx hb dX3_look_15 (by decide) (by omega) (by omega) (fun c_1 => ?_) (fun c_1 => ?_)
  · skip
    refine lv_iconst (v := nI 0) hx hb dX3_look_37 (by decide) ?_
    refine lv_istore_n (lv' := [(2, .int (nI 0)), (0, .ref wo), (1, .ref v)]) hx hb dX3_look_38 rfl hl (by decide) rfl (fun ls hl => ?_)
    refine lv_iload_n hx hb dX3_look_39 rfl (lv_at hl 0 rfl) ?_
    refine th_zeq (tgt := 76) hx hb dX3_look_40 (by decide) (by omega) (fun c_2 => ?_) (fun c_2 => by exfalso; omega)
    refine lv_aload_n hx hb dX3_look_76 rfl (lv_at hl 1 rfl) ?_
    refine lv_iconst (v := nI 1) hx hb dX3_look_77 (by decide) ?_
    refine va_put (D := Y.1) (ci := 3) (v := .int (nI 1)) (ty := .boolean) (C := RX3) (T := TX3) (N := 6) hx hb hts inX3 tyX3 tyX3_ok nmX3 hown hK hP hD hS 0 rfl rfl 3 (by decide) (hts _ tw_1_114) (fun _ h9 => h9) rfl (by decide +kernel) (th_nz (by first | exact Or.inl rfl | exact Or.inr rfl | assumption)) (th_fz (by first | exact Or.inl rfl | exact Or.inr rfl | assumption)) (Nat.le_of_ble_eq_true rfl) dX3_look_78 (fun H locs hP hD hS => ?_)
    have hP : va_P Y.1 vwCl [(wo, .inr (3, [.ref kr, .int (nI ks9), .int rt9, .int (nI 1), .int fo, .int fd])), (v, .inr (2, [.int (nI n), .ref a, .ref b])), (a, .inl (Y.2 0, 100, .inl f)), (b, .inl (Y.2 0, 256, .inl g))] _ := hP
    have hD : va_D _ [(wo, .inr (3, [.ref kr, .int (nI ks9), .int rt9, .int (nI 1), .int fo, .int fd])), (v, .inr (2, [.int (nI n), .ref a, .ref b])), (a, .inl (Y.2 0, 100, .inl f)), (b, .inl (Y.2 0, 256, .inl g))] := hD
    refine lv_iload_n hx hb dX3_look_81 rfl (lv_at hl 0 rfl) ?_
    refine th_zret hx hb hr hlk hQ hS dX3_look_82 (Nat.le_of_ble_eq_true rfl) (Nat.le_of_ble_eq_true rfl) (by first | exact Or.inl rfl | exact Or.inr rfl | assumption) ?_
    exact ⟨_, rfl, Or.inr ⟨fun z => absurd z.1 (by omega), rfl, hP⟩⟩
  refine lv_aload_n hx hb dX3_look_18 rfl (lv_at hl 1 rfl) ?_
  refine lv_aload_n hx hb dX3_look_19 rfl (lv_at hl 0 rfl) ?_
  refine va_get (D := Y.1) (ci := 3) (v := .int (nI ks9)) (C := RX3) (T := TX3) (N := 6) hx hb hts inX3 hown hK hP 0 rfl rfl 1 (by decide) (hts _ tw_1_110) (fun _ h9 => h9) rfl dX3_look_20 ?_
  refine th_callV hx hb hml hown hts ⟨hK, hN⟩ hl hS (hP 1 _ rfl) rfl (rest := []) (c_X2_rootAt l Y _ v a b n f g (hP.sub (ws' := [(v, .inr (2, [.int (nI n), .ref a, .ref b])), (a, .inl (Y.2 0, 100, .inl f)), (b, .inl (Y.2 0, 256, .inl g))]) [1, 2, 3] rfl) ks9 (by omega) (by omega) hB) ok_X2_rootAt tw_3_97 dX3_look_23 rfl rfl (Nat.le_of_ble_eq_true rfl) ⟨Nat.le_of_ble_eq_true rfl, Nat.le_of_ble_eq_true rfl⟩ ⟨Nat.le_of_ble_eq_true rfl, Nat.le_of_ble_eq_true rfl⟩ (fun _ h => h.elim) (th_kpi (fun locs hS => ?_))
  refine lv_aload_n hx hb dX3_look_26 rfl (lv_at hl 0 rfl) ?_
  refine va_get (D := Y.1) (ci := 3) (v := .int rt9) (C := RX3) (T := TX3) (N := 6) hx hb hts inX3 hown hK hP 0 rfl rfl 2 (by decide) (hts _ tw_1_112) (fun _ h9 => h9) rfl dX3_look_27 ?_
  refine lv_icmp_ne (tgt := 37) hx hb dX3_look_30 (by decide) (fun c_3 => ?_) (fun c_3 => ?_)
  · skip
    refine lv_iconst (v := nI 0) hx hb dX3_look_37 (by decide) ?_
    refine lv_istore_n (lv' := [(2, .int (nI 0)), (0, .ref wo), (1, .ref v)]) hx hb dX3_look_38 rfl hl (by decide) rfl (fun ls hl => ?_)
    refine lv_iload_n hx hb dX3_look_39 rfl (lv_at hl 0 rfl) ?_
    refine th_zeq (tgt := 76) hx hb dX3_look_40 (by decide) (by omega) (fun c_4 => ?_) (fun c_4 => by exfalso; omega)
    refine lv_aload_n hx hb dX3_look_76 rfl (lv_at hl 1 rfl) ?_
    refine lv_iconst (v := nI 1) hx hb dX3_look_77 (by decide) ?_
    refine va_put (D := Y.1) (ci := 3) (v := .int (nI 1)) (ty := .boolean) (C := RX3) (T := TX3) (N := 6) hx hb hts inX3 tyX3 tyX3_ok nmX3 hown hK hP hD hS 0 rfl rfl 3 (by decide) (hts _ tw_1_114) (fun _ h9 => h9) rfl (by decide +kernel) (th_nz (by first | exact Or.inl rfl | exact Or.inr rfl | assumption)) (th_fz (by first | exact Or.inl rfl | exact Or.inr rfl | assumption)) (Nat.le_of_ble_eq_true rfl) dX3_look_78 (fun H locs hP hD hS => ?_)
    have hP : va_P Y.1 vwCl [(wo, .inr (3, [.ref kr, .int (nI ks9), .int rt9, .int (nI 1), .int fo, .int fd])), (v, .inr (2, [.int (nI n), .ref a, .ref b])), (a, .inl (Y.2 0, 100, .inl f)), (b, .inl (Y.2 0, 256, .inl g))] _ := hP
    have hD : va_D _ [(wo, .inr (3, [.ref kr, .int (nI ks9), .int rt9, .int (nI 1), .int fo, .int fd])), (v, .inr (2, [.int (nI n), .ref a, .ref b])), (a, .inl (Y.2 0, 100, .inl f)), (b, .inl (Y.2 0, 256, .inl g))] := hD
    refine lv_iload_n hx hb dX3_look_81 rfl (lv_at hl 0 rfl) ?_
    refine th_zret hx hb hr hlk hQ hS dX3_look_82 (Nat.le_of_ble_eq_true rfl) (Nat.le_of_ble_eq_true rfl) (by first | exact Or.inl rfl | exact Or.inr rfl | assumption) ?_
    exact ⟨_, rfl, Or.inr ⟨fun z => c_3 z.2, rfl, hP⟩⟩
  refine lv_iconst (v := nI 1) hx hb dX3_look_33 (by decide) ?_
  refine lv_goto (tgt := 38) hx hb dX3_look_34 (by decide) ?_
  refine lv_istore_n (lv' := [(2, .int (nI 1)), (0, .ref wo), (1, .ref v)]) hx hb dX3_look_38 rfl hl (by decide) rfl (fun ls hl => ?_)
  refine lv_iload_n hx hb dX3_look_39 rfl (lv_at hl 0 rfl) ?_
  refine th_zeq (tgt := 76) hx hb dX3_look_40 (by decide) (by omega) (fun c_5 => by exfalso; omega) (fun c_5 => ?_)
  refine lv_aload_n hx hb dX3_look_43 rfl (lv_at hl 1 rfl) ?_
  refine lv_aload_n hx hb dX3_look_44 rfl (lv_at hl 2 rfl) ?_
  refine th_callV hx hb hml hown hts ⟨hK, hN⟩ hl hS (hP 0 _ rfl) rfl (rest := []) (c_X3_countNew_s l Y _ wo rt9 al fo fd kr ks9 v a b n f g hP ((hD.sub (ws' := [(wo, .inr (3, [.ref kr, .int (nI ks9), .int rt9, .int al, .int fo, .int fd])), (v, .inr (2, [.int (nI n), .ref a, .ref b])), (a, .inl (Y.2 0, 100, .inl f)), (b, .inl (Y.2 0, 256, .inl g))]) [0, 1, 2, 3] (by decide) rfl).weaken (fun _ _ _ _ => trivial)) (by omega) hfn (by omega)) ok_X3_countNew tw_3_98 dX3_look_45 rfl rfl (Nat.le_of_ble_eq_true rfl) ⟨Nat.le_of_ble_eq_true rfl, Nat.le_of_ble_eq_true rfl⟩ ⟨Nat.le_of_ble_eq_true rfl, Nat.le_of_ble_eq_true rfl⟩ (fun z hz => by simp only [List.mem_cons, List.not_mem_nil, or_false] at hz ⊢; omega) (th_kv (fun H locs hp hsm hS => ?_))
  have hPc := hp
  have hP : va_P Y.1 vwCl [(wo, .inr (3, [.ref kr, .int (nI ks9), .int rt9, .int al, .int fo, .int (th_cf f fo fd ks9 (n - ks9))])), (v, .inr (2, [.int (nI n), .ref a, .ref b])), (a, .inl (Y.2 0, 100, .inl f)), (b, .inl (Y.2 0, 256, .inl g))] _ := hPc
  have hD : va_D _ [(wo, .inr (3, [.ref kr, .int (nI ks9), .int rt9, .int al, .int fo, .int (th_cf f fo fd ks9 (n - ks9))])), (v, .inr (2, [.int (nI n), .ref a, .ref b])), (a, .inl (Y.2 0, 100, .inl f)), (b, .inl (Y.2 0, 256, .inl g))] := th_Dsame hD rfl
  refine lv_aload_n hx hb dX3_look_48 rfl (lv_at hl 1 rfl) ?_
  refine lv_aload_n hx hb dX3_look_49 rfl (lv_at hl 2 rfl) ?_
  refine va_put (D := Y.1) (ci := 3) (v := .ref v) (ty := .object "TreeheadGallery$View") (C := RX3) (T := TX3) (N := 6) hx hb hts inX3 tyX3 tyX3_ok nmX3 hown hK hP hD hS 0 rfl rfl 0 (by decide) (hts _ tw_1_109) (fun _ h9 => h9) rfl (by decide +kernel) rfl rfl (Nat.le_of_ble_eq_true rfl) dX3_look_50 (fun H locs hP hD hS => ?_)
  have hP : va_P Y.1 vwCl [(wo, .inr (3, [.ref v, .int (nI ks9), .int rt9, .int al, .int fo, .int (th_cf f fo fd ks9 (n - ks9))])), (v, .inr (2, [.int (nI n), .ref a, .ref b])), (a, .inl (Y.2 0, 100, .inl f)), (b, .inl (Y.2 0, 256, .inl g))] _ := hP
  have hD : va_D _ [(wo, .inr (3, [.ref v, .int (nI ks9), .int rt9, .int al, .int fo, .int (th_cf f fo fd ks9 (n - ks9))])), (v, .inr (2, [.int (nI n), .ref a, .ref b])), (a, .inl (Y.2 0, 100, .inl f)), (b, .inl (Y.2 0, 256, .inl g))] := hD
  refine lv_aload_n hx hb dX3_look_53 rfl (lv_at hl 1 rfl) ?_
  refine lv_aload_n hx hb dX3_look_54 rfl (lv_at hl 2 rfl) ?_
  refine va_getN (D := Y.1) (ci := 2) (v := .int (nI n)) (C := RX2) (T := TX2) (N := 3) hx hb hts inX2 hown hK hP 1 rfl rfl 0 (by decide) (va_Nw.use rfl (tn_1_93 hN)) (fun _ h9 => h9) rfl dX3_look_55 ?_
  refine va_put (D := Y.1) (ci := 3) (v := .int (nI n)) (ty := .int) (C := RX3) (T := TX3) (N := 6) hx hb hts inX3 tyX3 tyX3_ok nmX3 hown hK hP hD hS 0 rfl rfl 1 (by decide) (hts _ tw_1_110) (fun _ h9 => h9) rfl (by decide +kernel) rfl rfl (Nat.le_of_ble_eq_true rfl) dX3_look_58 (fun H locs hP hD hS => ?_)
  have hP : va_P Y.1 vwCl [(wo, .inr (3, [.ref v, .int (nI n), .int rt9, .int al, .int fo, .int (th_cf f fo fd ks9 (n - ks9))])), (v, .inr (2, [.int (nI n), .ref a, .ref b])), (a, .inl (Y.2 0, 100, .inl f)), (b, .inl (Y.2 0, 256, .inl g))] _ := hP
  have hD : va_D _ [(wo, .inr (3, [.ref v, .int (nI n), .int rt9, .int al, .int fo, .int (th_cf f fo fd ks9 (n - ks9))])), (v, .inr (2, [.int (nI n), .ref a, .ref b])), (a, .inl (Y.2 0, 100, .inl f)), (b, .inl (Y.2 0, 256, .inl g))] := hD
  refine lv_aload_n hx hb dX3_look_61 rfl (lv_at hl 1 rfl) ?_
  refine lv_aload_n hx hb dX3_look_62 rfl (lv_at hl 2 rfl) ?_
  refine lv_aload_n hx hb dX3_look_63 rfl (lv_at hl 1 rfl) ?_
  refine va_get (D := Y.1) (ci := 3) (v := .int (nI n)) (C := RX3) (T := TX3) (N := 6) hx hb hts inX3 hown hK hP 0 rfl rfl 1 (by decide) (hts _ tw_1_110) (fun _ h9 => h9) rfl dX3_look_64 ?_
  refine th_callV hx hb hml hown hts ⟨hK, hN⟩ hl hS (hP 1 _ rfl) rfl (rest := [.ref wo]) (c_X2_rootAt l Y _ v a b n f g (hP.sub (ws' := [(v, .inr (2, [.int (nI n), .ref a, .ref b])), (a, .inl (Y.2 0, 100, .inl f)), (b, .inl (Y.2 0, 256, .inl g))]) [1, 2, 3] rfl) n (by omega) (by omega) hB) ok_X2_rootAt tw_3_97 dX3_look_67 rfl rfl (Nat.le_of_ble_eq_true rfl) ⟨Nat.le_of_ble_eq_true rfl, Nat.le_of_ble_eq_true rfl⟩ ⟨Nat.le_of_ble_eq_true rfl, Nat.le_of_ble_eq_true rfl⟩ (fun _ h => h.elim) (th_kpi (fun locs hS => ?_))
  refine va_put (D := Y.1) (ci := 3) (v := .int (th_rt f 0 n)) (ty := .int) (C := RX3) (T := TX3) (N := 6) hx hb hts inX3 tyX3 tyX3_ok nmX3 hown hK hP hD hS 0 rfl rfl 2 (by decide) (hts _ tw_1_112) (fun _ h9 => h9) rfl (by decide +kernel) rfl rfl (Nat.le_of_ble_eq_true rfl) dX3_look_70 (fun H locs hP hD hS => ?_)
  have hP : va_P Y.1 vwCl [(wo, .inr (3, [.ref v, .int (nI n), .int (th_rt f 0 n), .int al, .int fo, .int (th_cf f fo fd ks9 (n - ks9))])), (v, .inr (2, [.int (nI n), .ref a, .ref b])), (a, .inl (Y.2 0, 100, .inl f)), (b, .inl (Y.2 0, 256, .inl g))] _ := hP
  have hD : va_D _ [(wo, .inr (3, [.ref v, .int (nI n), .int (th_rt f 0 n), .int al, .int fo, .int (th_cf f fo fd ks9 (n - ks9))])), (v, .inr (2, [.int (nI n), .ref a, .ref b])), (a, .inl (Y.2 0, 100, .inl f)), (b, .inl (Y.2 0, 256, .inl g))] := hD
  refine lv_goto (tgt := 81) hx hb dX3_look_73 (by decide) ?_
  refine lv_iload_n hx hb dX3_look_81 rfl (lv_at hl 0 rfl) ?_
  refine th_zret hx hb hr hlk hQ hS dX3_look_82 (Nat.le_of_ble_eq_true rfl) (Nat.le_of_ble_eq_true rfl) (by first | exact Or.inl rfl | exact Or.inr rfl | assumption) ?_
  exact ⟨_, rfl, Or.inl ⟨⟨by omega, c_3⟩, rfl, hP⟩⟩

set_option maxRecDepth 100000 in
set_option maxHeartbeats 4000000 in
theorem c_X3_fits_n (l : Launch) (Y : th_Y) (H : Heap) (wo : Nat) (rt9 al fo fd : Int32) (sz9 : Int32) (hP : va_P Y.1 vwCl [(wo, .inr (3, [.null, .int sz9, .int rt9, .int al, .int fo, .int fd]))] H) (w2 : Nat) : th_P l Y yX3_fits cX3_fits 2 (some .boolean) (th_rm 0 0 0) [.ref wo, .ref w2] H (fun r9 => r9 = some (.int (nI 1))) := by
  refine th_M.intro (by decide) (Nat.le_of_ble_eq_true rfl) ?_
  intro p e s m args below meth c ls Q hQ C hKN hl hS
  obtain ⟨hx, hb, hr, hml, hown, hts, hlk, hnm⟩ := C
  obtain ⟨hK, hN⟩ := hKN
  have hown : s.vm.findClass RX3 = some m.cls := hown
  have hl : lv_has ls 2 [(0, .ref wo), (1, .ref w2)] := hl
  refine lv_aload_n hx hb dX3_fits_0 rfl (lv_at hl 0 rfl) ?_
  refine va_get (D := Y.1) (ci := 3) (v := .null) (C := RX3) (T := TX3) (N := 6) hx hb hts inX3 hown hK hP 0 rfl rfl 0 (by decide) (hts _ tw_1_109) (fun _ h9 => h9) rfl dX3_fits_1 ?_
  refine lv_ifnullN (tgt := 14) hx hb dX3_fits_4 (by decide) ?_
  refine lv_iconst (v := nI 1) hx hb dX3_fits_14 (by decide) ?_
  refine th_zret hx hb hr hlk hQ hS dX3_fits_15 (Nat.le_of_ble_eq_true rfl) (Nat.le_of_ble_eq_true rfl) (by first | exact Or.inl rfl | exact Or.inr rfl | assumption) ?_
  exact ⟨rfl, rfl⟩

set_option maxRecDepth 100000 in
set_option maxHeartbeats 4000000 in
theorem c_X3_fits_m (l : Launch) (Y : th_Y) (H : Heap) (wo : Nat) (rt9 al fo fd : Int32) (kr ks9 : Nat) (w2 : Nat) (rt2 al2 fo2 fd2 : Int32) (sz2 : Int32) (hP : va_P Y.1 vwCl [(wo, .inr (3, [.ref kr, .int (nI ks9), .int rt9, .int al, .int fo, .int fd])), (w2, .inr (3, [.null, .int sz2, .int rt2, .int al2, .int fo2, .int fd2]))] H) : th_P l Y yX3_fits cX3_fits 2 (some .boolean) (th_rm 0 0 0) [.ref wo, .ref w2] H (fun r9 => r9 = some (.int (nI 1))) := by
  refine th_M.intro (by decide) (Nat.le_of_ble_eq_true rfl) ?_
  intro p e s m args below meth c ls Q hQ C hKN hl hS
  obtain ⟨hx, hb, hr, hml, hown, hts, hlk, hnm⟩ := C
  obtain ⟨hK, hN⟩ := hKN
  have hown : s.vm.findClass RX3 = some m.cls := hown
  have hl : lv_has ls 2 [(0, .ref wo), (1, .ref w2)] := hl
  refine lv_aload_n hx hb dX3_fits_0 rfl (lv_at hl 0 rfl) ?_
  refine va_get (D := Y.1) (ci := 3) (v := .ref kr) (C := RX3) (T := TX3) (N := 6) hx hb hts inX3 hown hK hP 0 rfl rfl 0 (by decide) (hts _ tw_1_109) (fun _ h9 => h9) rfl dX3_fits_1 ?_
  refine lv_ifnull hx hb dX3_fits_4 ?_
  refine lv_aload_n hx hb dX3_fits_7 rfl (lv_at hl 1 rfl) ?_
  refine va_get (D := Y.1) (ci := 3) (v := .null) (C := RX3) (T := TX3) (N := 6) hx hb hts inX3 hown hK hP 1 rfl rfl 0 (by decide) (hts _ tw_1_109) (fun _ h9 => h9) rfl dX3_fits_8 ?_
  refine lv_ifnonnullN hx hb dX3_fits_11 ?_
  refine lv_iconst (v := nI 1) hx hb dX3_fits_14 (by decide) ?_
  refine th_zret hx hb hr hlk hQ hS dX3_fits_15 (Nat.le_of_ble_eq_true rfl) (Nat.le_of_ble_eq_true rfl) (by first | exact Or.inl rfl | exact Or.inr rfl | assumption) ?_
  exact ⟨rfl, rfl⟩

set_option maxRecDepth 100000 in
set_option maxHeartbeats 4000000 in
theorem c_X3_fits_s (l : Launch) (Y : th_Y) (H : Heap) (wo : Nat) (rt9 al fo fd : Int32) (k1z : Nat) (w2 : Nat) (rt2 al2 fo2 fd2 : Int32) (k2z : Nat) (v1 va1 vb1 n1 v2 va2 vb2 n2 : Nat) (f1 g1 f2 g2 : Nat → Int32) (hP : va_P Y.1 vwCl [(wo, .inr (3, [.ref v1, .int (nI k1z), .int rt9, .int al, .int fo, .int fd])), (w2, .inr (3, [.ref v2, .int (nI k2z), .int rt2, .int al2, .int fo2, .int fd2])), (v1, .inr (2, [.int (nI n1), .ref va1, .ref vb1])), (va1, .inl (Y.2 0, 100, .inl f1)), (vb1, .inl (Y.2 0, 256, .inl g1)), (v2, .inr (2, [.int (nI n2), .ref va2, .ref vb2])), (va2, .inl (Y.2 0, 100, .inl f2)), (vb2, .inl (Y.2 0, 256, .inl g2))] H) (hn1 : n1 ≤ 100) (hn2 : n2 ≤ 100) (hB1 : th_BI f1 g1 n1) (hB2 : th_BI f2 g2 n2) (hk1 : k1z ≤ n1) (hk2 : k2z ≤ n2) : th_P l Y yX3_fits cX3_fits 2 (some .boolean) (th_rm 3 0 0) [.ref wo, .ref w2] H (fun r9 => r9 = some (.int (th_b ((k2z ≤ k1z → th_rt f1 0 k2z = rt2) ∧ (¬ k2z ≤ k1z → th_rt f2 0 k1z = rt9))))) := by
  refine th_M.intro (by decide) (Nat.le_of_ble_eq_true rfl) ?_
  intro p e s m args below meth c ls Q hQ C hKN hl hS
  obtain ⟨hx, hb, hr, hml, hown, hts, hlk, hnm⟩ := C
  obtain ⟨hK, hN⟩ := hKN
  have hown : s.vm.findClass RX3 = some m.cls := hown
  have hl : lv_has ls 2 [(0, .ref wo), (1, .ref w2)] := hl
  refine lv_aload_n hx hb dX3_fits_0 rfl (lv_at hl 0 rfl) ?_
  refine va_get (D := Y.1) (ci := 3) (v := .ref v1) (C := RX3) (T := TX3) (N := 6) hx hb hts inX3 hown hK hP 0 rfl rfl 0 (by decide) (hts _ tw_1_109) (fun _ h9 => h9) rfl dX3_fits_1 ?_
  refine lv_ifnull hx hb dX3_fits_4 ?_
  refine lv_aload_n hx hb dX3_fits_7 rfl (lv_at hl 1 rfl) ?_
  refine va_get (D := Y.1) (ci := 3) (v := .ref v2) (C := RX3) (T := TX3) (N := 6) hx hb hts inX3 hown hK hP 1 rfl rfl 0 (by decide) (hts _ tw_1_109) (fun _ h9 => h9) rfl dX3_fits_8 ?_
  refine lv_ifnonnull (tgt := 16) hx hb dX3_fits_11 (by decide) ?_
  refine lv_aload_n hx hb dX3_fits_16 rfl (lv_at hl 0 rfl) ?_
  refine va_get (D := Y.1) (ci := 3) (v := .int (nI k1z)) (C := RX3) (T := TX3) (N := 6) hx hb hts inX3 hown hK hP 0 rfl rfl 1 (by decide) (hts _ tw_1_110) (fun _ h9 => h9) rfl dX3_fits_17 ?_
  refine lv_aload_n hx hb dX3_fits_20 rfl (lv_at hl 1 rfl) ?_
  refine va_get (D := Y.1) (ci := 3) (v := .int (nI k2z)) (C := RX3) (T := TX3) (N := 6) hx hb hts inX3 hown hK hP 1 rfl rfl 1 (by decide) (hts _ tw_1_110) (fun _ h9 => h9) rfl dX3_fits_21 ?_
  refine th_ilt (tgt := 53) hx hb dX3_fits_24 (by decide) (by omega) (by omega) (fun c_1 => ?_) (fun c_1 => ?_)
  · skip
    refine lv_aload_n hx hb dX3_fits_53 rfl (lv_at hl 1 rfl) ?_
    refine va_get (D := Y.1) (ci := 3) (v := .ref v2) (C := RX3) (T := TX3) (N := 6) hx hb hts inX3 hown hK hP 1 rfl rfl 0 (by decide) (hts _ tw_1_109) (fun _ h9 => h9) rfl dX3_fits_54 ?_
    refine lv_aload_n hx hb dX3_fits_57 rfl (lv_at hl 0 rfl) ?_
    refine va_get (D := Y.1) (ci := 3) (v := .int (nI k1z)) (C := RX3) (T := TX3) (N := 6) hx hb hts inX3 hown hK hP 0 rfl rfl 1 (by decide) (hts _ tw_1_110) (fun _ h9 => h9) rfl dX3_fits_58 ?_
    refine th_callV hx hb hml hown hts ⟨hK, hN⟩ hl hS (hP 5 _ rfl) rfl (rest := []) (c_X2_rootAt l Y _ v2 va2 vb2 n2 f2 g2 (hP.sub (ws' := [(v2, .inr (2, [.int (nI n2), .ref va2, .ref vb2])), (va2, .inl (Y.2 0, 100, .inl f2)), (vb2, .inl (Y.2 0, 256, .inl g2))]) [5, 6, 7] rfl) k1z (by omega) (by omega) hB2) ok_X2_rootAt tw_3_97 dX3_fits_61 rfl rfl (Nat.le_of_ble_eq_true rfl) ⟨Nat.le_of_ble_eq_true rfl, Nat.le_of_ble_eq_true rfl⟩ ⟨Nat.le_of_ble_eq_true rfl, Nat.le_of_ble_eq_true rfl⟩ (fun _ h => h.elim) (th_kpi (fun locs hS => ?_))
    refine lv_aload_n hx hb dX3_fits_64 rfl (lv_at hl 0 rfl) ?_
    refine va_get (D := Y.1) (ci := 3) (v := .int rt9) (C := RX3) (T := TX3) (N := 6) hx hb hts inX3 hown hK hP 0 rfl rfl 2 (by decide) (hts _ tw_1_112) (fun _ h9 => h9) rfl dX3_fits_65 ?_
    refine lv_icmp_ne (tgt := 75) hx hb dX3_fits_68 (by decide) (fun c_2 => ?_) (fun c_2 => ?_)
    · skip
      refine lv_iconst (v := nI 0) hx hb dX3_fits_75 (by decide) ?_
      refine th_zret hx hb hr hlk hQ hS dX3_fits_76 (Nat.le_of_ble_eq_true rfl) (Nat.le_of_ble_eq_true rfl) (by first | exact Or.inl rfl | exact Or.inr rfl | assumption) ?_
      exact ⟨by rw [th_bF (fun z => c_2 (z.2 (by omega)))], rfl⟩
    refine lv_iconst (v := nI 1) hx hb dX3_fits_71 (by decide) ?_
    refine lv_goto (tgt := 76) hx hb dX3_fits_72 (by decide) ?_
    refine th_zret hx hb hr hlk hQ hS dX3_fits_76 (Nat.le_of_ble_eq_true rfl) (Nat.le_of_ble_eq_true rfl) (by first | exact Or.inl rfl | exact Or.inr rfl | assumption) ?_
    exact ⟨by rw [th_bT ⟨fun z => absurd z (by omega), fun _ => c_2⟩], rfl⟩
  refine lv_aload_n hx hb dX3_fits_27 rfl (lv_at hl 0 rfl) ?_
  refine va_get (D := Y.1) (ci := 3) (v := .ref v1) (C := RX3) (T := TX3) (N := 6) hx hb hts inX3 hown hK hP 0 rfl rfl 0 (by decide) (hts _ tw_1_109) (fun _ h9 => h9) rfl dX3_fits_28 ?_
  refine lv_aload_n hx hb dX3_fits_31 rfl (lv_at hl 1 rfl) ?_
  refine va_get (D := Y.1) (ci := 3) (v := .int (nI k2z)) (C := RX3) (T := TX3) (N := 6) hx hb hts inX3 hown hK hP 1 rfl rfl 1 (by decide) (hts _ tw_1_110) (fun _ h9 => h9) rfl dX3_fits_32 ?_
  refine th_callV hx hb hml hown hts ⟨hK, hN⟩ hl hS (hP 2 _ rfl) rfl (rest := []) (c_X2_rootAt l Y _ v1 va1 vb1 n1 f1 g1 (hP.sub (ws' := [(v1, .inr (2, [.int (nI n1), .ref va1, .ref vb1])), (va1, .inl (Y.2 0, 100, .inl f1)), (vb1, .inl (Y.2 0, 256, .inl g1))]) [2, 3, 4] rfl) k2z (by omega) (by omega) hB1) ok_X2_rootAt tw_3_97 dX3_fits_35 rfl rfl (Nat.le_of_ble_eq_true rfl) ⟨Nat.le_of_ble_eq_true rfl, Nat.le_of_ble_eq_true rfl⟩ ⟨Nat.le_of_ble_eq_true rfl, Nat.le_of_ble_eq_true rfl⟩ (fun _ h => h.elim) (th_kpi (fun locs hS => ?_))
  refine lv_aload_n hx hb dX3_fits_38 rfl (lv_at hl 1 rfl) ?_
  refine va_get (D := Y.1) (ci := 3) (v := .int rt2) (C := RX3) (T := TX3) (N := 6) hx hb hts inX3 hown hK hP 1 rfl rfl 2 (by decide) (hts _ tw_1_112) (fun _ h9 => h9) rfl dX3_fits_39 ?_
  refine lv_icmp_ne (tgt := 49) hx hb dX3_fits_42 (by decide) (fun c_3 => ?_) (fun c_3 => ?_)
  · skip
    refine lv_iconst (v := nI 0) hx hb dX3_fits_49 (by decide) ?_
    refine lv_goto (tgt := 76) hx hb dX3_fits_50 (by decide) ?_
    refine th_zret hx hb hr hlk hQ hS dX3_fits_76 (Nat.le_of_ble_eq_true rfl) (Nat.le_of_ble_eq_true rfl) (by first | exact Or.inl rfl | exact Or.inr rfl | assumption) ?_
    exact ⟨by rw [th_bF (fun z => c_3 (z.1 (by omega)))], rfl⟩
  refine lv_iconst (v := nI 1) hx hb dX3_fits_45 (by decide) ?_
  refine lv_goto (tgt := 76) hx hb dX3_fits_46 (by decide) ?_
  refine th_zret hx hb hr hlk hQ hS dX3_fits_76 (Nat.le_of_ble_eq_true rfl) (Nat.le_of_ble_eq_true rfl) (by first | exact Or.inl rfl | exact Or.inr rfl | assumption) ?_
  exact ⟨by rw [th_bT ⟨fun _ => c_3, fun z => absurd z (by omega)⟩], rfl⟩

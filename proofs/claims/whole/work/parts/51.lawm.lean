theorem th_caIO {A : Nat → Prop} {s : State} {args : Array Value} (h : th_T A s) : (Cond.castable "java/lang/IndexOutOfBoundsException" "java/lang/IndexOutOfBoundsException").before args s = true := va_Nw.use rfl (h.2.2.2.1 _ (List.mem_append_right _ (List.mem_append_left _ (List.mem_of_getElem? (i := 181) rfl))) rfl)
theorem th_caIA {A : Nat → Prop} {s : State} {args : Array Value} (h : th_T A s) : (Cond.castable "java/lang/IllegalArgumentException" "java/lang/IllegalArgumentException").before args s = true := va_Nw.use rfl (h.2.2.2.1 _ (List.mem_append_right _ (List.mem_append_right _ (List.mem_append_left _ (List.mem_of_getElem? (i := 13) rfl)))) rfl)
theorem th_caIS {A : Nat → Prop} {s : State} {args : Array Value} (h : th_T A s) : (Cond.castable "java/lang/IllegalStateException" "java/lang/IllegalStateException").before args s = true := va_Nw.use rfl (h.2.2.2.1 _ (List.mem_append_right _ (List.mem_append_right _ (List.mem_append_left _ (List.mem_of_getElem? (i := 32) rfl)))) rfl)
theorem kq_append (S : th_S) (x1 x2 : Int32) : th_Kq S (sp_append S x1 x2) := by
  unfold sp_append
  repeat' (first | exact th_Kq0 | exact th_KqS | refine th_KqI ?_ ?_)
set_option maxRecDepth 100000 in
set_option maxHeartbeats 800000 in
theorem c_L_append (l : Launch) (hl0 : l.stackTraces = false) (Y : th_Y) (H0 : Heap) (ad : Nat → Nat) (S : th_S) (Vx B : Nat → Nat → Int32) (dsx kvx ks : Nat → Int32) (wy : Nat → Nat) (wz : Nat → Nat → Int32) (hI : th_I Y ad S Vx B dsx kvx ks wy wz H0) (oo : Nat) (f9 : Nat → Int64) (hO : va_at Y.1 vwCl (oo, .inl (Y.2 4, 1, .inr (.inl f9))) H0) (hno : ¬ th_gA ad S.1 H0.size oo) (x1 x2 : Int32) : th_MW l Y yL_append cL_append 5 [(0, 10, 13, 13), (0, 10, 17, 15), (0, 10, 21, 17)] (th_rm 12 8 400) [.ref (ad 0), .int x1, .int x2, .ref oo] H0 (fun q => th_gA ad S.1 H0.size q ∨ q = oo) (th_lp Y (ad 0) (th_gA ad S.1 H0.size) oo (sp_append S x1 x2)) := by
  refine th_MW.intro (by decide) (Nat.le_of_ble_eq_true rfl) ?_
  intro p e s m args below meth c ls Q hQ C hKN hl hS hX htab
  obtain ⟨hx, hb, hr, hml, hown, hts, hlk, hnm⟩ := C
  obtain ⟨hK, hN⟩ := hKN
  have hown : s.vm.findClass RL = some m.cls := hown
  have hl : lv_has ls 5 [(0, .ref (ad 0)), (1, .int x1), (2, .int x2), (3, .ref oo)] := hl
  refine lv_aload_n hx hb dL_append_0 rfl (lv_at hl 3 rfl) ?_
  refine lv_iconst (v := nI 0) hx hb dL_append_1 (by decide) ?_
  refine lv_aload_n hx hb dL_append_2 rfl (lv_at hl 0 rfl) ?_
  refine lv_iload_n hx hb dL_append_3 rfl (lv_at hl 1 rfl) ?_
  refine lv_iload_n hx hb dL_append_4 rfl (lv_at hl 2 rfl) ?_
  have hAs : ∀ q : Nat, th_gA ad S.1 H0.size q → th_gA ad S.1 H0.size q := fun _ h9 => h9
  refine thw_callV hx hb hml hown hts ⟨hK, hN⟩ hl hS ⟨hX.1, hX.2.1⟩ ((th_gO hI.1) 0 _ rfl) rfl (rest := [.int (nI 0), .ref oo]) (c_X5_append l hl0 Y _ ad S Vx B dsx kvx ks wy wz hI x1 x2) ok_X5_append tw_1_171 dL_append_5 rfl rfl (Nat.le_of_ble_eq_true rfl) ⟨(Nat.le_of_ble_eq_true rfl), (Nat.le_of_ble_eq_true rfl)⟩ ⟨(Nat.le_of_ble_eq_true rfl), (Nat.le_of_ble_eq_true rfl)⟩ (fun _ h9 => Or.inl (hAs _ h9)) ?_ ?_
  · rintro E9 ce9 q9 H9 locs9 ⟨n9, hn9, hr9, hg9⟩ hsm9 hS hc9 hv9 hcl9
    have h39 : n9 < 3 := (List.getElem?_eq_some_iff.mp hn9).1
    rcases (show n9 = 0 ∨ n9 = 1 ∨ n9 = 2 by omega) with rfl | rfl | rfl
    · skip
      obtain rfl : "java/lang/IndexOutOfBoundsException" = E9 := Option.some.inj hn9
      refine thw_catch hown htab [] [(0, 10, 17, 15), (0, 10, 21, 17)] 0 10 13 13 rfl (fun _ h9 => absurd h9 List.not_mem_nil) (by decide) (by decide) (by decide) (hts _ tw_1_168) (th_caIO hX.1) hc9 hv9 hcl9 ?_
      refine lv_astore (lv' := [(4, .ref q9), (0, .ref (ad 0)), (1, .int x1), (2, .int x2), (3, .ref oo)]) hx hb dL_append_13 hl (by decide) rfl (fun ls hl => ?_)
      refine lv_iconst (v := nI 1) hx hb dL_append_15 (by decide) ?_
      refine thx_iret hx hb hr hlk hQ hS dL_append_16 (Nat.le_of_ble_eq_true rfl) (Nat.le_of_ble_eq_true rfl) ?_
      exact th_lpX hr9 (kq_append S x1 x2) hg9 (hO.kept (hsm9.2 _ hO.lt (fun z9 => hno (hAs _ z9))))
    · skip
      obtain rfl : "java/lang/IllegalArgumentException" = E9 := Option.some.inj hn9
      refine thw_catch hown htab [(0, 10, 13, 13)] [(0, 10, 21, 17)] 0 10 17 15 rfl (List.forall_mem_cons.mpr ⟨⟨by decide, _, hts _ tw_1_168, hX.2.2.1⟩, fun _ h9 => absurd h9 List.not_mem_nil⟩) (by decide) (by decide) (by decide) (hts _ tw_1_169) (th_caIA hX.1) hc9 hv9 hcl9 ?_
      refine lv_astore (lv' := [(4, .ref q9), (0, .ref (ad 0)), (1, .int x1), (2, .int x2), (3, .ref oo)]) hx hb dL_append_17 hl (by decide) rfl (fun ls hl => ?_)
      refine lv_iconst (v := nI 2) hx hb dL_append_19 (by decide) ?_
      refine thx_iret hx hb hr hlk hQ hS dL_append_20 (Nat.le_of_ble_eq_true rfl) (Nat.le_of_ble_eq_true rfl) ?_
      exact th_lpX hr9 (kq_append S x1 x2) hg9 (hO.kept (hsm9.2 _ hO.lt (fun z9 => hno (hAs _ z9))))
    · skip
      obtain rfl : "java/lang/IllegalStateException" = E9 := Option.some.inj hn9
      refine thw_catch hown htab [(0, 10, 13, 13), (0, 10, 17, 15)] [] 0 10 21 17 rfl (List.forall_mem_cons.mpr ⟨⟨by decide, _, hts _ tw_1_168, hX.2.2.2.1⟩, List.forall_mem_cons.mpr ⟨⟨by decide, _, hts _ tw_1_169, hX.2.2.2.2⟩, fun _ h9 => absurd h9 List.not_mem_nil⟩⟩) (by decide) (by decide) (by decide) (hts _ tw_1_170) (th_caIS hX.1) hc9 hv9 hcl9 ?_
      refine lv_astore (lv' := [(4, .ref q9), (0, .ref (ad 0)), (1, .int x1), (2, .int x2), (3, .ref oo)]) hx hb dL_append_21 hl (by decide) rfl (fun ls hl => ?_)
      refine lv_iconst (v := nI 3) hx hb dL_append_23 (by decide) ?_
      refine thx_iret hx hb hr hlk hQ hS dL_append_24 (Nat.le_of_ble_eq_true rfl) (Nat.le_of_ble_eq_true rfl) ?_
      exact th_lpX hr9 (kq_append S x1 x2) hg9 (hO.kept (hsm9.2 _ hO.lt (fun z9 => hno (hAs _ z9))))
  · skip
    rintro v9 H locs9 ⟨x9, rfl, hr9, he9, hg9⟩ hsm9 hS
    have hO9 := hO.kept (hsm9.2 _ hO.lt (fun z9 => hno (hAs _ z9)))
    refine lv_i2l hx hb dL_append_8 rfl ?_
    refine th_lastS hx hb hK hO9 (Or.inr rfl) hS dL_append_9 (fun H2 locs hO8 hsm8 hS => ?_)
    refine lv_goto (tgt := 25) hx hb dL_append_10 (by decide) ?_
    refine lv_iconst (v := nI 0) hx hb dL_append_25 (by decide) ?_
    refine thx_iret hx hb hr hlk hQ hS dL_append_26 (Nat.le_of_ble_eq_true rfl) (Nat.le_of_ble_eq_true rfl) ?_
    exact th_lpT hr9 (congrArg Int32.toInt64 he9) (th_GWo hg9 hno hsm8) hO8

theorem kq_appendRow (S : th_S) (x1 x2 x3 : Int32) : th_Kq S (sp_appendRow S x1 x2 x3) := by
  unfold sp_appendRow
  repeat' (first | exact th_Kq0 | exact th_KqS | refine th_KqI ?_ ?_)
set_option maxRecDepth 100000 in
set_option maxHeartbeats 800000 in
theorem c_L_appendRow (l : Launch) (hl0 : l.stackTraces = false) (Y : th_Y) (H0 : Heap) (ad : Nat → Nat) (S : th_S) (Vx B : Nat → Nat → Int32) (dsx kvx ks : Nat → Int32) (wy : Nat → Nat) (wz : Nat → Nat → Int32) (hI : th_I Y ad S Vx B dsx kvx ks wy wz H0) (oo : Nat) (f9 : Nat → Int64) (hO : va_at Y.1 vwCl (oo, .inl (Y.2 4, 1, .inr (.inl f9))) H0) (hno : ¬ th_gA ad S.1 H0.size oo) (x1 x2 x3 : Int32) : th_MW l Y yL_appendRow cL_appendRow 6 [(0, 12, 15, 13), (0, 12, 19, 15), (0, 12, 23, 17)] (th_rm 12 8 400) [.ref (ad 0), .int x1, .int x2, .int x3, .ref oo] H0 (fun q => th_gA ad S.1 H0.size q ∨ q = oo) (th_lp Y (ad 0) (th_gA ad S.1 H0.size) oo (sp_appendRow S x1 x2 x3)) := by
  refine th_MW.intro (by decide) (Nat.le_of_ble_eq_true rfl) ?_
  intro p e s m args below meth c ls Q hQ C hKN hl hS hX htab
  obtain ⟨hx, hb, hr, hml, hown, hts, hlk, hnm⟩ := C
  obtain ⟨hK, hN⟩ := hKN
  have hown : s.vm.findClass RL = some m.cls := hown
  have hl : lv_has ls 6 [(0, .ref (ad 0)), (1, .int x1), (2, .int x2), (3, .int x3), (4, .ref oo)] := hl
  refine lv_aload hx hb dL_appendRow_0 (lv_at hl 4 rfl) ?_
  refine lv_iconst (v := nI 0) hx hb dL_appendRow_2 (by decide) ?_
  refine lv_aload_n hx hb dL_appendRow_3 rfl (lv_at hl 0 rfl) ?_
  refine lv_iload_n hx hb dL_appendRow_4 rfl (lv_at hl 1 rfl) ?_
  refine lv_iload_n hx hb dL_appendRow_5 rfl (lv_at hl 2 rfl) ?_
  refine lv_iload_n hx hb dL_appendRow_6 rfl (lv_at hl 3 rfl) ?_
  have hAs : ∀ q : Nat, th_gA ad S.1 H0.size q → th_gA ad S.1 H0.size q := fun _ h9 => h9
  refine thw_callV hx hb hml hown hts ⟨hK, hN⟩ hl hS ⟨hX.1, hX.2.1⟩ ((th_gO hI.1) 0 _ rfl) rfl (rest := [.int (nI 0), .ref oo]) (c_X5_appendRow l hl0 Y _ ad S Vx B dsx kvx ks wy wz hI x1 x2 x3) ok_X5_appendRow tw_2_65 dL_appendRow_7 rfl rfl (Nat.le_of_ble_eq_true rfl) ⟨(Nat.le_of_ble_eq_true rfl), (Nat.le_of_ble_eq_true rfl)⟩ ⟨(Nat.le_of_ble_eq_true rfl), (Nat.le_of_ble_eq_true rfl)⟩ (fun _ h9 => Or.inl (hAs _ h9)) ?_ ?_
  · rintro E9 ce9 q9 H9 locs9 ⟨n9, hn9, hr9, hg9⟩ hsm9 hS hc9 hv9 hcl9
    have h39 : n9 < 3 := (List.getElem?_eq_some_iff.mp hn9).1
    rcases (show n9 = 0 ∨ n9 = 1 ∨ n9 = 2 by omega) with rfl | rfl | rfl
    · skip
      obtain rfl : "java/lang/IndexOutOfBoundsException" = E9 := Option.some.inj hn9
      refine thw_catch hown htab [] [(0, 12, 19, 15), (0, 12, 23, 17)] 0 12 15 13 rfl (fun _ h9 => absurd h9 List.not_mem_nil) (by decide) (by decide) (by decide) (hts _ tw_1_168) (th_caIO hX.1) hc9 hv9 hcl9 ?_
      refine lv_astore (lv' := [(5, .ref q9), (0, .ref (ad 0)), (1, .int x1), (2, .int x2), (3, .int x3), (4, .ref oo)]) hx hb dL_appendRow_15 hl (by decide) rfl (fun ls hl => ?_)
      refine lv_iconst (v := nI 1) hx hb dL_appendRow_17 (by decide) ?_
      refine thx_iret hx hb hr hlk hQ hS dL_appendRow_18 (Nat.le_of_ble_eq_true rfl) (Nat.le_of_ble_eq_true rfl) ?_
      exact th_lpX hr9 (kq_appendRow S x1 x2 x3) hg9 (hO.kept (hsm9.2 _ hO.lt (fun z9 => hno (hAs _ z9))))
    · skip
      obtain rfl : "java/lang/IllegalArgumentException" = E9 := Option.some.inj hn9
      refine thw_catch hown htab [(0, 12, 15, 13)] [(0, 12, 23, 17)] 0 12 19 15 rfl (List.forall_mem_cons.mpr ⟨⟨by decide, _, hts _ tw_1_168, hX.2.2.1⟩, fun _ h9 => absurd h9 List.not_mem_nil⟩) (by decide) (by decide) (by decide) (hts _ tw_1_169) (th_caIA hX.1) hc9 hv9 hcl9 ?_
      refine lv_astore (lv' := [(5, .ref q9), (0, .ref (ad 0)), (1, .int x1), (2, .int x2), (3, .int x3), (4, .ref oo)]) hx hb dL_appendRow_19 hl (by decide) rfl (fun ls hl => ?_)
      refine lv_iconst (v := nI 2) hx hb dL_appendRow_21 (by decide) ?_
      refine thx_iret hx hb hr hlk hQ hS dL_appendRow_22 (Nat.le_of_ble_eq_true rfl) (Nat.le_of_ble_eq_true rfl) ?_
      exact th_lpX hr9 (kq_appendRow S x1 x2 x3) hg9 (hO.kept (hsm9.2 _ hO.lt (fun z9 => hno (hAs _ z9))))
    · skip
      obtain rfl : "java/lang/IllegalStateException" = E9 := Option.some.inj hn9
      refine thw_catch hown htab [(0, 12, 15, 13), (0, 12, 19, 15)] [] 0 12 23 17 rfl (List.forall_mem_cons.mpr ⟨⟨by decide, _, hts _ tw_1_168, hX.2.2.2.1⟩, List.forall_mem_cons.mpr ⟨⟨by decide, _, hts _ tw_1_169, hX.2.2.2.2⟩, fun _ h9 => absurd h9 List.not_mem_nil⟩⟩) (by decide) (by decide) (by decide) (hts _ tw_1_170) (th_caIS hX.1) hc9 hv9 hcl9 ?_
      refine lv_astore (lv' := [(5, .ref q9), (0, .ref (ad 0)), (1, .int x1), (2, .int x2), (3, .int x3), (4, .ref oo)]) hx hb dL_appendRow_23 hl (by decide) rfl (fun ls hl => ?_)
      refine lv_iconst (v := nI 3) hx hb dL_appendRow_25 (by decide) ?_
      refine thx_iret hx hb hr hlk hQ hS dL_appendRow_26 (Nat.le_of_ble_eq_true rfl) (Nat.le_of_ble_eq_true rfl) ?_
      exact th_lpX hr9 (kq_appendRow S x1 x2 x3) hg9 (hO.kept (hsm9.2 _ hO.lt (fun z9 => hno (hAs _ z9))))
  · skip
    rintro v9 H locs9 ⟨x9, rfl, hr9, he9, hg9⟩ hsm9 hS
    have hO9 := hO.kept (hsm9.2 _ hO.lt (fun z9 => hno (hAs _ z9)))
    refine lv_i2l hx hb dL_appendRow_10 rfl ?_
    refine th_lastS hx hb hK hO9 (Or.inr rfl) hS dL_appendRow_11 (fun H2 locs hO8 hsm8 hS => ?_)
    refine lv_goto (tgt := 27) hx hb dL_appendRow_12 (by decide) ?_
    refine lv_iconst (v := nI 0) hx hb dL_appendRow_27 (by decide) ?_
    refine thx_iret hx hb hr hlk hQ hS dL_appendRow_28 (Nat.le_of_ble_eq_true rfl) (Nat.le_of_ble_eq_true rfl) ?_
    exact th_lpT hr9 (congrArg Int32.toInt64 he9) (th_GWo hg9 hno hsm8) hO8

theorem kq_fork (S : th_S) (x1 x2 : Int32) : th_Kq S (sp_fork S x1 x2) := by
  unfold sp_fork
  repeat' (first | exact th_Kq0 | exact th_KqS | refine th_KqI ?_ ?_)
set_option maxRecDepth 100000 in
set_option maxHeartbeats 800000 in
theorem c_L_fork (l : Launch) (hl0 : l.stackTraces = false) (Y : th_Y) (H0 : Heap) (ad : Nat → Nat) (S : th_S) (Vx B : Nat → Nat → Int32) (dsx kvx ks : Nat → Int32) (wy : Nat → Nat) (wz : Nat → Nat → Int32) (hI : th_I Y ad S Vx B dsx kvx ks wy wz H0) (oo : Nat) (f9 : Nat → Int64) (hO : va_at Y.1 vwCl (oo, .inl (Y.2 4, 1, .inr (.inl f9))) H0) (hno : ¬ th_gA ad S.1 H0.size oo) (x1 x2 : Int32) : th_MW l Y yL_fork cL_fork 5 [(0, 10, 13, 13), (0, 10, 17, 15), (0, 10, 21, 17)] (th_rm 12 8 400) [.ref (ad 0), .int x1, .int x2, .ref oo] H0 (fun q => th_gA ad S.1 H0.size q ∨ q = oo) (th_lp Y (ad 0) (th_gA ad S.1 H0.size) oo (sp_fork S x1 x2)) := by
  refine th_MW.intro (by decide) (Nat.le_of_ble_eq_true rfl) ?_
  intro p e s m args below meth c ls Q hQ C hKN hl hS hX htab
  obtain ⟨hx, hb, hr, hml, hown, hts, hlk, hnm⟩ := C
  obtain ⟨hK, hN⟩ := hKN
  have hown : s.vm.findClass RL = some m.cls := hown
  have hl : lv_has ls 5 [(0, .ref (ad 0)), (1, .int x1), (2, .int x2), (3, .ref oo)] := hl
  refine lv_aload_n hx hb dL_fork_0 rfl (lv_at hl 3 rfl) ?_
  refine lv_iconst (v := nI 0) hx hb dL_fork_1 (by decide) ?_
  refine lv_aload_n hx hb dL_fork_2 rfl (lv_at hl 0 rfl) ?_
  refine lv_iload_n hx hb dL_fork_3 rfl (lv_at hl 1 rfl) ?_
  refine lv_iload_n hx hb dL_fork_4 rfl (lv_at hl 2 rfl) ?_
  have hAs : ∀ q : Nat, (q = ad 0 ∨ q = ad 1 ∨ H0.size ≤ q) → th_gA ad S.1 H0.size q := fun q h9 => h9.elim (fun e9 => Or.inl ⟨0, by omega, e9.symm⟩) (fun h9 => h9.elim (fun e9 => Or.inl ⟨1, by omega, e9.symm⟩) Or.inr)
  refine thw_callV hx hb hml hown hts ⟨hK, hN⟩ hl hS ⟨hX.1, hX.2.1⟩ ((th_gO hI.1) 0 _ rfl) rfl (rest := [.int (nI 0), .ref oo]) (c_X5_fork l hl0 Y _ ad S Vx B dsx kvx ks wy wz hI x1 x2) ok_X5_fork tw_2_72 dL_fork_5 rfl rfl (Nat.le_of_ble_eq_true rfl) ⟨(Nat.le_of_ble_eq_true rfl), (Nat.le_of_ble_eq_true rfl)⟩ ⟨(Nat.le_of_ble_eq_true rfl), (Nat.le_of_ble_eq_true rfl)⟩ (fun _ h9 => Or.inl (hAs _ h9)) ?_ ?_
  · rintro E9 ce9 q9 H9 locs9 ⟨n9, hn9, hr9, hg9⟩ hsm9 hS hc9 hv9 hcl9
    have h39 : n9 < 3 := (List.getElem?_eq_some_iff.mp hn9).1
    rcases (show n9 = 0 ∨ n9 = 1 ∨ n9 = 2 by omega) with rfl | rfl | rfl
    · skip
      obtain rfl : "java/lang/IndexOutOfBoundsException" = E9 := Option.some.inj hn9
      refine thw_catch hown htab [] [(0, 10, 17, 15), (0, 10, 21, 17)] 0 10 13 13 rfl (fun _ h9 => absurd h9 List.not_mem_nil) (by decide) (by decide) (by decide) (hts _ tw_1_168) (th_caIO hX.1) hc9 hv9 hcl9 ?_
      refine lv_astore (lv' := [(4, .ref q9), (0, .ref (ad 0)), (1, .int x1), (2, .int x2), (3, .ref oo)]) hx hb dL_fork_13 hl (by decide) rfl (fun ls hl => ?_)
      refine lv_iconst (v := nI 1) hx hb dL_fork_15 (by decide) ?_
      refine thx_iret hx hb hr hlk hQ hS dL_fork_16 (Nat.le_of_ble_eq_true rfl) (Nat.le_of_ble_eq_true rfl) ?_
      exact th_lpX hr9 (kq_fork S x1 x2) hg9 (hO.kept (hsm9.2 _ hO.lt (fun z9 => hno (hAs _ z9))))
    · skip
      obtain rfl : "java/lang/IllegalArgumentException" = E9 := Option.some.inj hn9
      refine thw_catch hown htab [(0, 10, 13, 13)] [(0, 10, 21, 17)] 0 10 17 15 rfl (List.forall_mem_cons.mpr ⟨⟨by decide, _, hts _ tw_1_168, hX.2.2.1⟩, fun _ h9 => absurd h9 List.not_mem_nil⟩) (by decide) (by decide) (by decide) (hts _ tw_1_169) (th_caIA hX.1) hc9 hv9 hcl9 ?_
      refine lv_astore (lv' := [(4, .ref q9), (0, .ref (ad 0)), (1, .int x1), (2, .int x2), (3, .ref oo)]) hx hb dL_fork_17 hl (by decide) rfl (fun ls hl => ?_)
      refine lv_iconst (v := nI 2) hx hb dL_fork_19 (by decide) ?_
      refine thx_iret hx hb hr hlk hQ hS dL_fork_20 (Nat.le_of_ble_eq_true rfl) (Nat.le_of_ble_eq_true rfl) ?_
      exact th_lpX hr9 (kq_fork S x1 x2) hg9 (hO.kept (hsm9.2 _ hO.lt (fun z9 => hno (hAs _ z9))))
    · skip
      obtain rfl : "java/lang/IllegalStateException" = E9 := Option.some.inj hn9
      refine thw_catch hown htab [(0, 10, 13, 13), (0, 10, 17, 15)] [] 0 10 21 17 rfl (List.forall_mem_cons.mpr ⟨⟨by decide, _, hts _ tw_1_168, hX.2.2.2.1⟩, List.forall_mem_cons.mpr ⟨⟨by decide, _, hts _ tw_1_169, hX.2.2.2.2⟩, fun _ h9 => absurd h9 List.not_mem_nil⟩⟩) (by decide) (by decide) (by decide) (hts _ tw_1_170) (th_caIS hX.1) hc9 hv9 hcl9 ?_
      refine lv_astore (lv' := [(4, .ref q9), (0, .ref (ad 0)), (1, .int x1), (2, .int x2), (3, .ref oo)]) hx hb dL_fork_21 hl (by decide) rfl (fun ls hl => ?_)
      refine lv_iconst (v := nI 3) hx hb dL_fork_23 (by decide) ?_
      refine thx_iret hx hb hr hlk hQ hS dL_fork_24 (Nat.le_of_ble_eq_true rfl) (Nat.le_of_ble_eq_true rfl) ?_
      exact th_lpX hr9 (kq_fork S x1 x2) hg9 (hO.kept (hsm9.2 _ hO.lt (fun z9 => hno (hAs _ z9))))
  · skip
    rintro v9 H locs9 ⟨x9, rfl, hr9, he9, hg9⟩ hsm9 hS
    have hO9 := hO.kept (hsm9.2 _ hO.lt (fun z9 => hno (hAs _ z9)))
    refine lv_i2l hx hb dL_fork_8 rfl ?_
    refine th_lastS hx hb hK hO9 (Or.inr rfl) hS dL_fork_9 (fun H2 locs hO8 hsm8 hS => ?_)
    refine lv_goto (tgt := 25) hx hb dL_fork_10 (by decide) ?_
    refine lv_iconst (v := nI 0) hx hb dL_fork_25 (by decide) ?_
    refine thx_iret hx hb hr hlk hQ hS dL_fork_26 (Nat.le_of_ble_eq_true rfl) (Nat.le_of_ble_eq_true rfl) ?_
    exact th_lpT hr9 (congrArg Int32.toInt64 he9) (th_GWo hg9 hno hsm8) hO8

theorem kq_size (S : th_S) (x1 : Int32) : th_Kq S (sp_size S x1) := by
  unfold sp_size
  repeat' (first | exact th_Kq0 | exact th_KqS | refine th_KqI ?_ ?_)
set_option maxRecDepth 100000 in
set_option maxHeartbeats 800000 in
theorem c_L_size (l : Launch) (hl0 : l.stackTraces = false) (Y : th_Y) (H0 : Heap) (ad : Nat → Nat) (S : th_S) (Vx B : Nat → Nat → Int32) (dsx kvx ks : Nat → Int32) (wy : Nat → Nat) (wz : Nat → Nat → Int32) (hI : th_I Y ad S Vx B dsx kvx ks wy wz H0) (oo : Nat) (f9 : Nat → Int64) (hO : va_at Y.1 vwCl (oo, .inl (Y.2 4, 1, .inr (.inl f9))) H0) (hno : ¬ th_gA ad S.1 H0.size oo) (x1 : Int32) : th_MW l Y yL_size cL_size 4 [(0, 9, 12, 13)] (th_rm 12 8 400) [.ref (ad 0), .int x1, .ref oo] H0 (fun q => th_gA ad S.1 H0.size q ∨ q = oo) (th_lp Y (ad 0) (th_gA ad S.1 H0.size) oo (sp_size S x1)) := by
  refine th_MW.intro (by decide) (Nat.le_of_ble_eq_true rfl) ?_
  intro p e s m args below meth c ls Q hQ C hKN hl hS hX htab
  obtain ⟨hx, hb, hr, hml, hown, hts, hlk, hnm⟩ := C
  obtain ⟨hK, hN⟩ := hKN
  have hown : s.vm.findClass RL = some m.cls := hown
  have hl : lv_has ls 4 [(0, .ref (ad 0)), (1, .int x1), (2, .ref oo)] := hl
  refine lv_aload_n hx hb dL_size_0 rfl (lv_at hl 2 rfl) ?_
  refine lv_iconst (v := nI 0) hx hb dL_size_1 (by decide) ?_
  refine lv_aload_n hx hb dL_size_2 rfl (lv_at hl 0 rfl) ?_
  refine lv_iload_n hx hb dL_size_3 rfl (lv_at hl 1 rfl) ?_
  have hAs : ∀ q : Nat, th_gA ad S.1 H0.size q → th_gA ad S.1 H0.size q := fun _ h9 => h9
  refine thw_callV hx hb hml hown hts ⟨hK, hN⟩ hl hS ⟨hX.1, hX.2.1⟩ ((th_gO hI.1) 0 _ rfl) rfl (rest := [.int (nI 0), .ref oo]) (c_X5_size l hl0 Y _ ad S Vx B dsx kvx ks wy wz hI x1) ok_X5_size tw_2_84 dL_size_4 rfl rfl (Nat.le_of_ble_eq_true rfl) ⟨(Nat.le_of_ble_eq_true rfl), (Nat.le_of_ble_eq_true rfl)⟩ ⟨(Nat.le_of_ble_eq_true rfl), (Nat.le_of_ble_eq_true rfl)⟩ (fun _ h9 => Or.inl (hAs _ h9)) ?_ ?_
  · rintro E9 ce9 q9 H9 locs9 ⟨n9, hn9, hr9, hg9⟩ hsm9 hS hc9 hv9 hcl9
    have h39 : n9 < 1 := (List.getElem?_eq_some_iff.mp hn9).1
    obtain rfl : n9 = 0 := by omega
    obtain rfl : "java/lang/IndexOutOfBoundsException" = E9 := Option.some.inj hn9
    refine thw_catch hown htab [] [] 0 9 12 13 rfl (fun _ h9 => absurd h9 List.not_mem_nil) (by decide) (by decide) (by decide) (hts _ tw_1_168) (th_caIO hX.1) hc9 hv9 hcl9 ?_
    refine lv_astore_n (lv' := [(3, .ref q9), (0, .ref (ad 0)), (1, .int x1), (2, .ref oo)]) hx hb dL_size_12 rfl hl (by decide) rfl (fun ls hl => ?_)
    refine lv_iconst (v := nI 1) hx hb dL_size_13 (by decide) ?_
    refine thx_iret hx hb hr hlk hQ hS dL_size_14 (Nat.le_of_ble_eq_true rfl) (Nat.le_of_ble_eq_true rfl) ?_
    exact th_lpX hr9 (kq_size S x1) hg9 (hO.kept (hsm9.2 _ hO.lt (fun z9 => hno (hAs _ z9))))
  · skip
    rintro v9 H locs9 ⟨x9, rfl, hr9, he9, hg9⟩ hsm9 hS
    have hO9 := hO.kept (hsm9.2 _ hO.lt (fun z9 => hno (hAs _ z9)))
    refine lv_i2l hx hb dL_size_7 rfl ?_
    refine th_lastS hx hb hK hO9 (Or.inr rfl) hS dL_size_8 (fun H2 locs hO8 hsm8 hS => ?_)
    refine lv_goto (tgt := 15) hx hb dL_size_9 (by decide) ?_
    refine lv_iconst (v := nI 0) hx hb dL_size_15 (by decide) ?_
    refine thx_iret hx hb hr hlk hQ hS dL_size_16 (Nat.le_of_ble_eq_true rfl) (Nat.le_of_ble_eq_true rfl) ?_
    exact th_lpT hr9 (congrArg Int32.toInt64 he9) (th_GWo hg9 hno hsm8) hO8

theorem kq_leaf (S : th_S) (x1 x2 : Int32) : th_Kq S (sp_leaf S x1 x2) := by
  unfold sp_leaf
  repeat' (first | exact th_Kq0 | exact th_KqS | refine th_KqI ?_ ?_)
set_option maxRecDepth 100000 in
set_option maxHeartbeats 800000 in
theorem c_L_leaf (l : Launch) (hl0 : l.stackTraces = false) (Y : th_Y) (H0 : Heap) (ad : Nat → Nat) (S : th_S) (Vx B : Nat → Nat → Int32) (dsx kvx ks : Nat → Int32) (wy : Nat → Nat) (wz : Nat → Nat → Int32) (hI : th_I Y ad S Vx B dsx kvx ks wy wz H0) (oo : Nat) (f9 : Nat → Int64) (hO : va_at Y.1 vwCl (oo, .inl (Y.2 4, 1, .inr (.inl f9))) H0) (hno : ¬ th_gA ad S.1 H0.size oo) (x1 x2 : Int32) : th_MW l Y yL_leaf cL_leaf 5 [(0, 10, 13, 13)] (th_rm 12 8 400) [.ref (ad 0), .int x1, .int x2, .ref oo] H0 (fun q => th_gA ad S.1 H0.size q ∨ q = oo) (th_lp Y (ad 0) (th_gA ad S.1 H0.size) oo (sp_leaf S x1 x2)) := by
  refine th_MW.intro (by decide) (Nat.le_of_ble_eq_true rfl) ?_
  intro p e s m args below meth c ls Q hQ C hKN hl hS hX htab
  obtain ⟨hx, hb, hr, hml, hown, hts, hlk, hnm⟩ := C
  obtain ⟨hK, hN⟩ := hKN
  have hown : s.vm.findClass RL = some m.cls := hown
  have hl : lv_has ls 5 [(0, .ref (ad 0)), (1, .int x1), (2, .int x2), (3, .ref oo)] := hl
  refine lv_aload_n hx hb dL_leaf_0 rfl (lv_at hl 3 rfl) ?_
  refine lv_iconst (v := nI 0) hx hb dL_leaf_1 (by decide) ?_
  refine lv_aload_n hx hb dL_leaf_2 rfl (lv_at hl 0 rfl) ?_
  refine lv_iload_n hx hb dL_leaf_3 rfl (lv_at hl 1 rfl) ?_
  refine lv_iload_n hx hb dL_leaf_4 rfl (lv_at hl 2 rfl) ?_
  have hAs : ∀ q : Nat, th_gA ad S.1 H0.size q → th_gA ad S.1 H0.size q := fun _ h9 => h9
  refine thw_callV hx hb hml hown hts ⟨hK, hN⟩ hl hS ⟨hX.1, hX.2.1⟩ ((th_gO hI.1) 0 _ rfl) rfl (rest := [.int (nI 0), .ref oo]) (c_X5_leaf l hl0 Y _ ad S Vx B dsx kvx ks wy wz hI x1 x2) ok_X5_leaf tw_2_91 dL_leaf_5 rfl rfl (Nat.le_of_ble_eq_true rfl) ⟨(Nat.le_of_ble_eq_true rfl), (Nat.le_of_ble_eq_true rfl)⟩ ⟨(Nat.le_of_ble_eq_true rfl), (Nat.le_of_ble_eq_true rfl)⟩ (fun _ h9 => Or.inl (hAs _ h9)) ?_ ?_
  · rintro E9 ce9 q9 H9 locs9 ⟨n9, hn9, hr9, hg9⟩ hsm9 hS hc9 hv9 hcl9
    have h39 : n9 < 1 := (List.getElem?_eq_some_iff.mp hn9).1
    obtain rfl : n9 = 0 := by omega
    obtain rfl : "java/lang/IndexOutOfBoundsException" = E9 := Option.some.inj hn9
    refine thw_catch hown htab [] [] 0 10 13 13 rfl (fun _ h9 => absurd h9 List.not_mem_nil) (by decide) (by decide) (by decide) (hts _ tw_1_168) (th_caIO hX.1) hc9 hv9 hcl9 ?_
    refine lv_astore (lv' := [(4, .ref q9), (0, .ref (ad 0)), (1, .int x1), (2, .int x2), (3, .ref oo)]) hx hb dL_leaf_13 hl (by decide) rfl (fun ls hl => ?_)
    refine lv_iconst (v := nI 1) hx hb dL_leaf_15 (by decide) ?_
    refine thx_iret hx hb hr hlk hQ hS dL_leaf_16 (Nat.le_of_ble_eq_true rfl) (Nat.le_of_ble_eq_true rfl) ?_
    exact th_lpX hr9 (kq_leaf S x1 x2) hg9 (hO.kept (hsm9.2 _ hO.lt (fun z9 => hno (hAs _ z9))))
  · skip
    rintro v9 H locs9 ⟨x9, rfl, hr9, he9, hg9⟩ hsm9 hS
    have hO9 := hO.kept (hsm9.2 _ hO.lt (fun z9 => hno (hAs _ z9)))
    refine lv_i2l hx hb dL_leaf_8 rfl ?_
    refine th_lastS hx hb hK hO9 (Or.inr rfl) hS dL_leaf_9 (fun H2 locs hO8 hsm8 hS => ?_)
    refine lv_goto (tgt := 17) hx hb dL_leaf_10 (by decide) ?_
    refine lv_iconst (v := nI 0) hx hb dL_leaf_17 (by decide) ?_
    refine thx_iret hx hb hr hlk hQ hS dL_leaf_18 (Nat.le_of_ble_eq_true rfl) (Nat.le_of_ble_eq_true rfl) ?_
    exact th_lpT hr9 (congrArg Int32.toInt64 he9) (th_GWo hg9 hno hsm8) hO8

theorem kq_root (S : th_S) (x1 x2 : Int32) : th_Kq S (sp_root S x1 x2) := by
  unfold sp_root
  repeat' (first | exact th_Kq0 | exact th_KqS | refine th_KqI ?_ ?_)
set_option maxRecDepth 100000 in
set_option maxHeartbeats 800000 in
theorem c_L_root (l : Launch) (hl0 : l.stackTraces = false) (Y : th_Y) (H0 : Heap) (ad : Nat → Nat) (S : th_S) (Vx B : Nat → Nat → Int32) (dsx kvx ks : Nat → Int32) (wy : Nat → Nat) (wz : Nat → Nat → Int32) (hI : th_I Y ad S Vx B dsx kvx ks wy wz H0) (oo : Nat) (f9 : Nat → Int64) (hO : va_at Y.1 vwCl (oo, .inl (Y.2 4, 1, .inr (.inl f9))) H0) (hno : ¬ th_gA ad S.1 H0.size oo) (x1 x2 : Int32) : th_MW l Y yL_root cL_root 5 [(0, 10, 13, 13), (0, 10, 17, 15)] (th_rm 12 8 400) [.ref (ad 0), .int x1, .int x2, .ref oo] H0 (fun q => th_gA ad S.1 H0.size q ∨ q = oo) (th_lp Y (ad 0) (th_gA ad S.1 H0.size) oo (sp_root S x1 x2)) := by
  refine th_MW.intro (by decide) (Nat.le_of_ble_eq_true rfl) ?_
  intro p e s m args below meth c ls Q hQ C hKN hl hS hX htab
  obtain ⟨hx, hb, hr, hml, hown, hts, hlk, hnm⟩ := C
  obtain ⟨hK, hN⟩ := hKN
  have hown : s.vm.findClass RL = some m.cls := hown
  have hl : lv_has ls 5 [(0, .ref (ad 0)), (1, .int x1), (2, .int x2), (3, .ref oo)] := hl
  refine lv_aload_n hx hb dL_root_0 rfl (lv_at hl 3 rfl) ?_
  refine lv_iconst (v := nI 0) hx hb dL_root_1 (by decide) ?_
  refine lv_aload_n hx hb dL_root_2 rfl (lv_at hl 0 rfl) ?_
  refine lv_iload_n hx hb dL_root_3 rfl (lv_at hl 1 rfl) ?_
  refine lv_iload_n hx hb dL_root_4 rfl (lv_at hl 2 rfl) ?_
  have hAs : ∀ q : Nat, th_gA ad S.1 H0.size q → th_gA ad S.1 H0.size q := fun _ h9 => h9
  refine thw_callV hx hb hml hown hts ⟨hK, hN⟩ hl hS ⟨hX.1, hX.2.1⟩ ((th_gO hI.1) 0 _ rfl) rfl (rest := [.int (nI 0), .ref oo]) (c_X5_root l hl0 Y _ ad S Vx B dsx kvx ks wy wz hI x1 x2) ok_X5_root tw_2_99 dL_root_5 rfl rfl (Nat.le_of_ble_eq_true rfl) ⟨(Nat.le_of_ble_eq_true rfl), (Nat.le_of_ble_eq_true rfl)⟩ ⟨(Nat.le_of_ble_eq_true rfl), (Nat.le_of_ble_eq_true rfl)⟩ (fun _ h9 => Or.inl (hAs _ h9)) ?_ ?_
  · rintro E9 ce9 q9 H9 locs9 ⟨n9, hn9, hr9, hg9⟩ hsm9 hS hc9 hv9 hcl9
    have h39 : n9 < 2 := (List.getElem?_eq_some_iff.mp hn9).1
    rcases (show n9 = 0 ∨ n9 = 1 by omega) with rfl | rfl
    · skip
      obtain rfl : "java/lang/IndexOutOfBoundsException" = E9 := Option.some.inj hn9
      refine thw_catch hown htab [] [(0, 10, 17, 15)] 0 10 13 13 rfl (fun _ h9 => absurd h9 List.not_mem_nil) (by decide) (by decide) (by decide) (hts _ tw_1_168) (th_caIO hX.1) hc9 hv9 hcl9 ?_
      refine lv_astore (lv' := [(4, .ref q9), (0, .ref (ad 0)), (1, .int x1), (2, .int x2), (3, .ref oo)]) hx hb dL_root_13 hl (by decide) rfl (fun ls hl => ?_)
      refine lv_iconst (v := nI 1) hx hb dL_root_15 (by decide) ?_
      refine thx_iret hx hb hr hlk hQ hS dL_root_16 (Nat.le_of_ble_eq_true rfl) (Nat.le_of_ble_eq_true rfl) ?_
      exact th_lpX hr9 (kq_root S x1 x2) hg9 (hO.kept (hsm9.2 _ hO.lt (fun z9 => hno (hAs _ z9))))
    · skip
      obtain rfl : "java/lang/IllegalArgumentException" = E9 := Option.some.inj hn9
      refine thw_catch hown htab [(0, 10, 13, 13)] [] 0 10 17 15 rfl (List.forall_mem_cons.mpr ⟨⟨by decide, _, hts _ tw_1_168, hX.2.2.1⟩, fun _ h9 => absurd h9 List.not_mem_nil⟩) (by decide) (by decide) (by decide) (hts _ tw_1_169) (th_caIA hX.1) hc9 hv9 hcl9 ?_
      refine lv_astore (lv' := [(4, .ref q9), (0, .ref (ad 0)), (1, .int x1), (2, .int x2), (3, .ref oo)]) hx hb dL_root_17 hl (by decide) rfl (fun ls hl => ?_)
      refine lv_iconst (v := nI 2) hx hb dL_root_19 (by decide) ?_
      refine thx_iret hx hb hr hlk hQ hS dL_root_20 (Nat.le_of_ble_eq_true rfl) (Nat.le_of_ble_eq_true rfl) ?_
      exact th_lpX hr9 (kq_root S x1 x2) hg9 (hO.kept (hsm9.2 _ hO.lt (fun z9 => hno (hAs _ z9))))
  · skip
    rintro v9 H locs9 ⟨x9, rfl, hr9, he9, hg9⟩ hsm9 hS
    have hO9 := hO.kept (hsm9.2 _ hO.lt (fun z9 => hno (hAs _ z9)))
    refine lv_i2l hx hb dL_root_8 rfl ?_
    refine th_lastS hx hb hK hO9 (Or.inr rfl) hS dL_root_9 (fun H2 locs hO8 hsm8 hS => ?_)
    refine lv_goto (tgt := 21) hx hb dL_root_10 (by decide) ?_
    refine lv_iconst (v := nI 0) hx hb dL_root_21 (by decide) ?_
    refine thx_iret hx hb hr hlk hQ hS dL_root_22 (Nat.le_of_ble_eq_true rfl) (Nat.le_of_ble_eq_true rfl) ?_
    exact th_lpT hr9 (congrArg Int32.toInt64 he9) (th_GWo hg9 hno hsm8) hO8

set_option maxRecDepth 100000 in
set_option maxHeartbeats 800000 in
theorem c_L_rootAnew (l : Launch) (hl0 : l.stackTraces = false) (Y : th_Y) (H0 : Heap) (ad : Nat → Nat) (S : th_S) (Vx B : Nat → Nat → Int32) (dsx kvx ks : Nat → Int32) (wy : Nat → Nat) (wz : Nat → Nat → Int32) (hI : th_I Y ad S Vx B dsx kvx ks wy wz H0) (oo : Nat) (f9 : Nat → Int64) (hO : va_at Y.1 vwCl (oo, .inl (Y.2 4, 1, .inr (.inl f9))) H0) (hno : ¬ th_gA ad S.1 H0.size oo) (x1 x2 : Int32) : th_MW l Y yL_rootAnew cL_rootAnew 5 [(0, 10, 13, 13), (0, 10, 17, 15)] (th_rm 12 8 400) [.ref (ad 0), .int x1, .int x2, .ref oo] H0 (fun q => th_gA ad S.1 H0.size q ∨ q = oo) (th_lp Y (ad 0) (th_gA ad S.1 H0.size) oo (sp_root S x1 x2)) := by
  refine th_MW.intro (by decide) (Nat.le_of_ble_eq_true rfl) ?_
  intro p e s m args below meth c ls Q hQ C hKN hl hS hX htab
  obtain ⟨hx, hb, hr, hml, hown, hts, hlk, hnm⟩ := C
  obtain ⟨hK, hN⟩ := hKN
  have hown : s.vm.findClass RL = some m.cls := hown
  have hl : lv_has ls 5 [(0, .ref (ad 0)), (1, .int x1), (2, .int x2), (3, .ref oo)] := hl
  refine lv_aload_n hx hb dL_rootAnew_0 rfl (lv_at hl 3 rfl) ?_
  refine lv_iconst (v := nI 0) hx hb dL_rootAnew_1 (by decide) ?_
  refine lv_aload_n hx hb dL_rootAnew_2 rfl (lv_at hl 0 rfl) ?_
  refine lv_iload_n hx hb dL_rootAnew_3 rfl (lv_at hl 1 rfl) ?_
  refine lv_iload_n hx hb dL_rootAnew_4 rfl (lv_at hl 2 rfl) ?_
  have hAs : ∀ q : Nat, th_gA ad S.1 H0.size q → th_gA ad S.1 H0.size q := fun _ h9 => h9
  refine thw_callV hx hb hml hown hts ⟨hK, hN⟩ hl hS ⟨hX.1, hX.2.1⟩ ((th_gO hI.1) 0 _ rfl) rfl (rest := [.int (nI 0), .ref oo]) (c_X5_rootAnew l hl0 Y _ ad S Vx B dsx kvx ks wy wz hI x1 x2) ok_X5_rootAnew tw_2_118 dL_rootAnew_5 rfl rfl (Nat.le_of_ble_eq_true rfl) ⟨(Nat.le_of_ble_eq_true rfl), (Nat.le_of_ble_eq_true rfl)⟩ ⟨(Nat.le_of_ble_eq_true rfl), (Nat.le_of_ble_eq_true rfl)⟩ (fun _ h9 => Or.inl (hAs _ h9)) ?_ ?_
  · rintro E9 ce9 q9 H9 locs9 ⟨n9, hn9, hr9, hg9⟩ hsm9 hS hc9 hv9 hcl9
    have h39 : n9 < 2 := (List.getElem?_eq_some_iff.mp hn9).1
    rcases (show n9 = 0 ∨ n9 = 1 by omega) with rfl | rfl
    · skip
      obtain rfl : "java/lang/IndexOutOfBoundsException" = E9 := Option.some.inj hn9
      refine thw_catch hown htab [] [(0, 10, 17, 15)] 0 10 13 13 rfl (fun _ h9 => absurd h9 List.not_mem_nil) (by decide) (by decide) (by decide) (hts _ tw_1_168) (th_caIO hX.1) hc9 hv9 hcl9 ?_
      refine lv_astore (lv' := [(4, .ref q9), (0, .ref (ad 0)), (1, .int x1), (2, .int x2), (3, .ref oo)]) hx hb dL_rootAnew_13 hl (by decide) rfl (fun ls hl => ?_)
      refine lv_iconst (v := nI 1) hx hb dL_rootAnew_15 (by decide) ?_
      refine thx_iret hx hb hr hlk hQ hS dL_rootAnew_16 (Nat.le_of_ble_eq_true rfl) (Nat.le_of_ble_eq_true rfl) ?_
      exact th_lpX hr9 (kq_root S x1 x2) hg9 (hO.kept (hsm9.2 _ hO.lt (fun z9 => hno (hAs _ z9))))
    · skip
      obtain rfl : "java/lang/IllegalArgumentException" = E9 := Option.some.inj hn9
      refine thw_catch hown htab [(0, 10, 13, 13)] [] 0 10 17 15 rfl (List.forall_mem_cons.mpr ⟨⟨by decide, _, hts _ tw_1_168, hX.2.2.1⟩, fun _ h9 => absurd h9 List.not_mem_nil⟩) (by decide) (by decide) (by decide) (hts _ tw_1_169) (th_caIA hX.1) hc9 hv9 hcl9 ?_
      refine lv_astore (lv' := [(4, .ref q9), (0, .ref (ad 0)), (1, .int x1), (2, .int x2), (3, .ref oo)]) hx hb dL_rootAnew_17 hl (by decide) rfl (fun ls hl => ?_)
      refine lv_iconst (v := nI 2) hx hb dL_rootAnew_19 (by decide) ?_
      refine thx_iret hx hb hr hlk hQ hS dL_rootAnew_20 (Nat.le_of_ble_eq_true rfl) (Nat.le_of_ble_eq_true rfl) ?_
      exact th_lpX hr9 (kq_root S x1 x2) hg9 (hO.kept (hsm9.2 _ hO.lt (fun z9 => hno (hAs _ z9))))
  · skip
    rintro v9 H locs9 ⟨x9, rfl, hr9, he9, hg9⟩ hsm9 hS
    have hO9 := hO.kept (hsm9.2 _ hO.lt (fun z9 => hno (hAs _ z9)))
    refine lv_i2l hx hb dL_rootAnew_8 rfl ?_
    refine th_lastS hx hb hK hO9 (Or.inr rfl) hS dL_rootAnew_9 (fun H2 locs hO8 hsm8 hS => ?_)
    refine lv_goto (tgt := 21) hx hb dL_rootAnew_10 (by decide) ?_
    refine lv_iconst (v := nI 0) hx hb dL_rootAnew_21 (by decide) ?_
    refine thx_iret hx hb hr hlk hQ hS dL_rootAnew_22 (Nat.le_of_ble_eq_true rfl) (Nat.le_of_ble_eq_true rfl) ?_
    exact th_lpT hr9 (congrArg Int32.toInt64 he9) (th_GWo hg9 hno hsm8) hO8

theorem kq_loadLeaf (S : th_S) (x1 x2 x3 : Int32) : th_Kq S (sp_loadLeaf S x1 x2 x3) := by
  unfold sp_loadLeaf
  repeat' (first | exact th_Kq0 | exact th_KqS | refine th_KqI ?_ ?_)
set_option maxRecDepth 100000 in
set_option maxHeartbeats 800000 in
theorem c_L_loadLeaf (l : Launch) (hl0 : l.stackTraces = false) (Y : th_Y) (H0 : Heap) (ad : Nat → Nat) (S : th_S) (Vx B : Nat → Nat → Int32) (dsx kvx ks : Nat → Int32) (wy : Nat → Nat) (wz : Nat → Nat → Int32) (hI : th_I Y ad S Vx B dsx kvx ks wy wz H0) (oo : Nat) (f9 : Nat → Int64) (hO : va_at Y.1 vwCl (oo, .inl (Y.2 4, 1, .inr (.inl f9))) H0) (hno : ¬ th_gA ad S.1 H0.size oo) (x1 x2 x3 : Int32) : th_MW l Y yL_loadLeaf cL_loadLeaf 6 [(0, 12, 15, 13), (0, 12, 19, 15)] (th_rm 12 8 400) [.ref (ad 0), .int x1, .int x2, .int x3, .ref oo] H0 (fun q => th_gA ad S.1 H0.size q ∨ q = oo) (th_lp Y (ad 0) (th_gA ad S.1 H0.size) oo (sp_loadLeaf S x1 x2 x3)) := by
  refine th_MW.intro (by decide) (Nat.le_of_ble_eq_true rfl) ?_
  intro p e s m args below meth c ls Q hQ C hKN hl hS hX htab
  obtain ⟨hx, hb, hr, hml, hown, hts, hlk, hnm⟩ := C
  obtain ⟨hK, hN⟩ := hKN
  have hown : s.vm.findClass RL = some m.cls := hown
  have hl : lv_has ls 6 [(0, .ref (ad 0)), (1, .int x1), (2, .int x2), (3, .int x3), (4, .ref oo)] := hl
  refine lv_aload hx hb dL_loadLeaf_0 (lv_at hl 4 rfl) ?_
  refine lv_iconst (v := nI 0) hx hb dL_loadLeaf_2 (by decide) ?_
  refine lv_aload_n hx hb dL_loadLeaf_3 rfl (lv_at hl 0 rfl) ?_
  refine lv_iload_n hx hb dL_loadLeaf_4 rfl (lv_at hl 1 rfl) ?_
  refine lv_iload_n hx hb dL_loadLeaf_5 rfl (lv_at hl 2 rfl) ?_
  refine lv_iload_n hx hb dL_loadLeaf_6 rfl (lv_at hl 3 rfl) ?_
  have hAs : ∀ q : Nat, th_gA ad S.1 H0.size q → th_gA ad S.1 H0.size q := fun _ h9 => h9
  refine thw_callV hx hb hml hown hts ⟨hK, hN⟩ hl hS ⟨hX.1, hX.2.1⟩ ((th_gO hI.1) 0 _ rfl) rfl (rest := [.int (nI 0), .ref oo]) (c_X5_loadLeaf l hl0 Y _ ad S Vx B dsx kvx ks wy wz hI x1 x2 x3) ok_X5_loadLeaf tw_2_135 dL_loadLeaf_7 rfl rfl (Nat.le_of_ble_eq_true rfl) ⟨(Nat.le_of_ble_eq_true rfl), (Nat.le_of_ble_eq_true rfl)⟩ ⟨(Nat.le_of_ble_eq_true rfl), (Nat.le_of_ble_eq_true rfl)⟩ (fun _ h9 => Or.inl (hAs _ h9)) ?_ ?_
  · rintro E9 ce9 q9 H9 locs9 ⟨n9, hn9, hr9, hg9⟩ hsm9 hS hc9 hv9 hcl9
    have h39 : n9 < 2 := (List.getElem?_eq_some_iff.mp hn9).1
    rcases (show n9 = 0 ∨ n9 = 1 by omega) with rfl | rfl
    · skip
      obtain rfl : "java/lang/IndexOutOfBoundsException" = E9 := Option.some.inj hn9
      refine thw_catch hown htab [] [(0, 12, 19, 15)] 0 12 15 13 rfl (fun _ h9 => absurd h9 List.not_mem_nil) (by decide) (by decide) (by decide) (hts _ tw_1_168) (th_caIO hX.1) hc9 hv9 hcl9 ?_
      refine lv_astore (lv' := [(5, .ref q9), (0, .ref (ad 0)), (1, .int x1), (2, .int x2), (3, .int x3), (4, .ref oo)]) hx hb dL_loadLeaf_15 hl (by decide) rfl (fun ls hl => ?_)
      refine lv_iconst (v := nI 1) hx hb dL_loadLeaf_17 (by decide) ?_
      refine thx_iret hx hb hr hlk hQ hS dL_loadLeaf_18 (Nat.le_of_ble_eq_true rfl) (Nat.le_of_ble_eq_true rfl) ?_
      exact th_lpX hr9 (kq_loadLeaf S x1 x2 x3) hg9 (hO.kept (hsm9.2 _ hO.lt (fun z9 => hno (hAs _ z9))))
    · skip
      obtain rfl : "java/lang/IllegalArgumentException" = E9 := Option.some.inj hn9
      refine thw_catch hown htab [(0, 12, 15, 13)] [] 0 12 19 15 rfl (List.forall_mem_cons.mpr ⟨⟨by decide, _, hts _ tw_1_168, hX.2.2.1⟩, fun _ h9 => absurd h9 List.not_mem_nil⟩) (by decide) (by decide) (by decide) (hts _ tw_1_169) (th_caIA hX.1) hc9 hv9 hcl9 ?_
      refine lv_astore (lv' := [(5, .ref q9), (0, .ref (ad 0)), (1, .int x1), (2, .int x2), (3, .int x3), (4, .ref oo)]) hx hb dL_loadLeaf_19 hl (by decide) rfl (fun ls hl => ?_)
      refine lv_iconst (v := nI 2) hx hb dL_loadLeaf_21 (by decide) ?_
      refine thx_iret hx hb hr hlk hQ hS dL_loadLeaf_22 (Nat.le_of_ble_eq_true rfl) (Nat.le_of_ble_eq_true rfl) ?_
      exact th_lpX hr9 (kq_loadLeaf S x1 x2 x3) hg9 (hO.kept (hsm9.2 _ hO.lt (fun z9 => hno (hAs _ z9))))
  · skip
    rintro v9 H locs9 ⟨x9, rfl, hr9, he9, hg9⟩ hsm9 hS
    have hO9 := hO.kept (hsm9.2 _ hO.lt (fun z9 => hno (hAs _ z9)))
    refine lv_i2l hx hb dL_loadLeaf_10 rfl ?_
    refine th_lastS hx hb hK hO9 (Or.inr rfl) hS dL_loadLeaf_11 (fun H2 locs hO8 hsm8 hS => ?_)
    refine lv_goto (tgt := 23) hx hb dL_loadLeaf_12 (by decide) ?_
    refine lv_iconst (v := nI 0) hx hb dL_loadLeaf_23 (by decide) ?_
    refine thx_iret hx hb hr hlk hQ hS dL_loadLeaf_24 (Nat.le_of_ble_eq_true rfl) (Nat.le_of_ble_eq_true rfl) ?_
    exact th_lpT hr9 (congrArg Int32.toInt64 he9) (th_GWo hg9 hno hsm8) hO8

theorem kq_loadGrowth (S : th_S) (x1 x2 x3 : Int32) : th_Kq S (sp_loadGrowth S x1 x2 x3) := by
  unfold sp_loadGrowth
  repeat' (first | exact th_Kq0 | exact th_KqS | refine th_KqI ?_ ?_)
set_option maxRecDepth 100000 in
set_option maxHeartbeats 800000 in
theorem c_L_loadGrowth (l : Launch) (hl0 : l.stackTraces = false) (Y : th_Y) (H0 : Heap) (ad : Nat → Nat) (S : th_S) (Vx B : Nat → Nat → Int32) (dsx kvx ks : Nat → Int32) (wy : Nat → Nat) (wz : Nat → Nat → Int32) (hI : th_I Y ad S Vx B dsx kvx ks wy wz H0) (oo : Nat) (f9 : Nat → Int64) (hO : va_at Y.1 vwCl (oo, .inl (Y.2 4, 1, .inr (.inl f9))) H0) (hno : ¬ th_gA ad S.1 H0.size oo) (x1 x2 x3 : Int32) : th_MW l Y yL_loadGrowth cL_loadGrowth 6 [(0, 12, 15, 13), (0, 12, 19, 15)] (th_rm 12 8 400) [.ref (ad 0), .int x1, .int x2, .int x3, .ref oo] H0 (fun q => th_gA ad S.1 H0.size q ∨ q = oo) (th_lp Y (ad 0) (th_gA ad S.1 H0.size) oo (sp_loadGrowth S x1 x2 x3)) := by
  refine th_MW.intro (by decide) (Nat.le_of_ble_eq_true rfl) ?_
  intro p e s m args below meth c ls Q hQ C hKN hl hS hX htab
  obtain ⟨hx, hb, hr, hml, hown, hts, hlk, hnm⟩ := C
  obtain ⟨hK, hN⟩ := hKN
  have hown : s.vm.findClass RL = some m.cls := hown
  have hl : lv_has ls 6 [(0, .ref (ad 0)), (1, .int x1), (2, .int x2), (3, .int x3), (4, .ref oo)] := hl
  refine lv_aload hx hb dL_loadGrowth_0 (lv_at hl 4 rfl) ?_
  refine lv_iconst (v := nI 0) hx hb dL_loadGrowth_2 (by decide) ?_
  refine lv_aload_n hx hb dL_loadGrowth_3 rfl (lv_at hl 0 rfl) ?_
  refine lv_iload_n hx hb dL_loadGrowth_4 rfl (lv_at hl 1 rfl) ?_
  refine lv_iload_n hx hb dL_loadGrowth_5 rfl (lv_at hl 2 rfl) ?_
  refine lv_iload_n hx hb dL_loadGrowth_6 rfl (lv_at hl 3 rfl) ?_
  have hAs : ∀ q : Nat, th_gA ad S.1 H0.size q → th_gA ad S.1 H0.size q := fun _ h9 => h9
  refine thw_callV hx hb hml hown hts ⟨hK, hN⟩ hl hS ⟨hX.1, hX.2.1⟩ ((th_gO hI.1) 0 _ rfl) rfl (rest := [.int (nI 0), .ref oo]) (c_X5_loadGrowth l hl0 Y _ ad S Vx B dsx kvx ks wy wz hI x1 x2 x3) ok_X5_loadGrowth tw_2_172 dL_loadGrowth_7 rfl rfl (Nat.le_of_ble_eq_true rfl) ⟨(Nat.le_of_ble_eq_true rfl), (Nat.le_of_ble_eq_true rfl)⟩ ⟨(Nat.le_of_ble_eq_true rfl), (Nat.le_of_ble_eq_true rfl)⟩ (fun _ h9 => Or.inl (hAs _ h9)) ?_ ?_
  · rintro E9 ce9 q9 H9 locs9 ⟨n9, hn9, hr9, hg9⟩ hsm9 hS hc9 hv9 hcl9
    have h39 : n9 < 2 := (List.getElem?_eq_some_iff.mp hn9).1
    rcases (show n9 = 0 ∨ n9 = 1 by omega) with rfl | rfl
    · skip
      obtain rfl : "java/lang/IndexOutOfBoundsException" = E9 := Option.some.inj hn9
      refine thw_catch hown htab [] [(0, 12, 19, 15)] 0 12 15 13 rfl (fun _ h9 => absurd h9 List.not_mem_nil) (by decide) (by decide) (by decide) (hts _ tw_1_168) (th_caIO hX.1) hc9 hv9 hcl9 ?_
      refine lv_astore (lv' := [(5, .ref q9), (0, .ref (ad 0)), (1, .int x1), (2, .int x2), (3, .int x3), (4, .ref oo)]) hx hb dL_loadGrowth_15 hl (by decide) rfl (fun ls hl => ?_)
      refine lv_iconst (v := nI 1) hx hb dL_loadGrowth_17 (by decide) ?_
      refine thx_iret hx hb hr hlk hQ hS dL_loadGrowth_18 (Nat.le_of_ble_eq_true rfl) (Nat.le_of_ble_eq_true rfl) ?_
      exact th_lpX hr9 (kq_loadGrowth S x1 x2 x3) hg9 (hO.kept (hsm9.2 _ hO.lt (fun z9 => hno (hAs _ z9))))
    · skip
      obtain rfl : "java/lang/IllegalArgumentException" = E9 := Option.some.inj hn9
      refine thw_catch hown htab [(0, 12, 15, 13)] [] 0 12 19 15 rfl (List.forall_mem_cons.mpr ⟨⟨by decide, _, hts _ tw_1_168, hX.2.2.1⟩, fun _ h9 => absurd h9 List.not_mem_nil⟩) (by decide) (by decide) (by decide) (hts _ tw_1_169) (th_caIA hX.1) hc9 hv9 hcl9 ?_
      refine lv_astore (lv' := [(5, .ref q9), (0, .ref (ad 0)), (1, .int x1), (2, .int x2), (3, .int x3), (4, .ref oo)]) hx hb dL_loadGrowth_19 hl (by decide) rfl (fun ls hl => ?_)
      refine lv_iconst (v := nI 2) hx hb dL_loadGrowth_21 (by decide) ?_
      refine thx_iret hx hb hr hlk hQ hS dL_loadGrowth_22 (Nat.le_of_ble_eq_true rfl) (Nat.le_of_ble_eq_true rfl) ?_
      exact th_lpX hr9 (kq_loadGrowth S x1 x2 x3) hg9 (hO.kept (hsm9.2 _ hO.lt (fun z9 => hno (hAs _ z9))))
  · skip
    rintro v9 H locs9 ⟨x9, rfl, hr9, he9, hg9⟩ hsm9 hS
    have hO9 := hO.kept (hsm9.2 _ hO.lt (fun z9 => hno (hAs _ z9)))
    refine lv_i2l hx hb dL_loadGrowth_10 rfl ?_
    refine th_lastS hx hb hK hO9 (Or.inr rfl) hS dL_loadGrowth_11 (fun H2 locs hO8 hsm8 hS => ?_)
    refine lv_goto (tgt := 23) hx hb dL_loadGrowth_12 (by decide) ?_
    refine lv_iconst (v := nI 0) hx hb dL_loadGrowth_23 (by decide) ?_
    refine thx_iret hx hb hr hlk hQ hS dL_loadGrowth_24 (Nat.le_of_ble_eq_true rfl) (Nat.le_of_ble_eq_true rfl) ?_
    exact th_lpT hr9 (congrArg Int32.toInt64 he9) (th_GWo hg9 hno hsm8) hO8

theorem kq_loadKey (S : th_S) (x1 : Int32) : th_Kq S (sp_loadKey S x1) := by
  unfold sp_loadKey
  repeat' (first | exact th_Kq0 | exact th_KqS | refine th_KqI ?_ ?_)
set_option maxRecDepth 100000 in
set_option maxHeartbeats 800000 in
theorem c_L_loadKey (l : Launch) (hl0 : l.stackTraces = false) (Y : th_Y) (H0 : Heap) (ad : Nat → Nat) (S : th_S) (Vx B : Nat → Nat → Int32) (dsx kvx ks : Nat → Int32) (wy : Nat → Nat) (wz : Nat → Nat → Int32) (hI : th_I Y ad S Vx B dsx kvx ks wy wz H0) (oo : Nat) (f9 : Nat → Int64) (hO : va_at Y.1 vwCl (oo, .inl (Y.2 4, 1, .inr (.inl f9))) H0) (hno : ¬ th_gA ad S.1 H0.size oo) (x1 : Int32) : th_MW l Y yL_loadKey cL_loadKey 4 [(0, 9, 12, 15)] (th_rm 12 8 400) [.ref (ad 0), .int x1, .ref oo] H0 (fun q => th_gA ad S.1 H0.size q ∨ q = oo) (th_lp Y (ad 0) (th_gA ad S.1 H0.size) oo (sp_loadKey S x1)) := by
  refine th_MW.intro (by decide) (Nat.le_of_ble_eq_true rfl) ?_
  intro p e s m args below meth c ls Q hQ C hKN hl hS hX htab
  obtain ⟨hx, hb, hr, hml, hown, hts, hlk, hnm⟩ := C
  obtain ⟨hK, hN⟩ := hKN
  have hown : s.vm.findClass RL = some m.cls := hown
  have hl : lv_has ls 4 [(0, .ref (ad 0)), (1, .int x1), (2, .ref oo)] := hl
  refine lv_aload_n hx hb dL_loadKey_0 rfl (lv_at hl 2 rfl) ?_
  refine lv_iconst (v := nI 0) hx hb dL_loadKey_1 (by decide) ?_
  refine lv_aload_n hx hb dL_loadKey_2 rfl (lv_at hl 0 rfl) ?_
  refine lv_iload_n hx hb dL_loadKey_3 rfl (lv_at hl 1 rfl) ?_
  have hAs : ∀ q : Nat, th_gA ad S.1 H0.size q → th_gA ad S.1 H0.size q := fun _ h9 => h9
  refine thw_callV hx hb hml hown hts ⟨hK, hN⟩ hl hS ⟨hX.1, hX.2.1⟩ ((th_gO hI.1) 0 _ rfl) rfl (rest := [.int (nI 0), .ref oo]) (c_X5_loadKey l hl0 Y _ ad S Vx B dsx kvx ks wy wz hI x1) ok_X5_loadKey tw_2_191 dL_loadKey_4 rfl rfl (Nat.le_of_ble_eq_true rfl) ⟨(Nat.le_of_ble_eq_true rfl), (Nat.le_of_ble_eq_true rfl)⟩ ⟨(Nat.le_of_ble_eq_true rfl), (Nat.le_of_ble_eq_true rfl)⟩ (fun _ h9 => Or.inl (hAs _ h9)) ?_ ?_
  · rintro E9 ce9 q9 H9 locs9 ⟨n9, hn9, hr9, hg9⟩ hsm9 hS hc9 hv9 hcl9
    have h39 : n9 < 1 := (List.getElem?_eq_some_iff.mp hn9).1
    obtain rfl : n9 = 0 := by omega
    obtain rfl : "java/lang/IllegalArgumentException" = E9 := Option.some.inj hn9
    refine thw_catch hown htab [] [] 0 9 12 15 rfl (fun _ h9 => absurd h9 List.not_mem_nil) (by decide) (by decide) (by decide) (hts _ tw_1_169) (th_caIA hX.1) hc9 hv9 hcl9 ?_
    refine lv_astore_n (lv' := [(3, .ref q9), (0, .ref (ad 0)), (1, .int x1), (2, .ref oo)]) hx hb dL_loadKey_12 rfl hl (by decide) rfl (fun ls hl => ?_)
    refine lv_iconst (v := nI 1) hx hb dL_loadKey_13 (by decide) ?_
    refine thx_iret hx hb hr hlk hQ hS dL_loadKey_14 (Nat.le_of_ble_eq_true rfl) (Nat.le_of_ble_eq_true rfl) ?_
    exact th_lpX hr9 (kq_loadKey S x1) hg9 (hO.kept (hsm9.2 _ hO.lt (fun z9 => hno (hAs _ z9))))
  · skip
    rintro v9 H locs9 ⟨x9, rfl, hr9, he9, hg9⟩ hsm9 hS
    have hO9 := hO.kept (hsm9.2 _ hO.lt (fun z9 => hno (hAs _ z9)))
    refine lv_i2l hx hb dL_loadKey_7 rfl ?_
    refine th_lastS hx hb hK hO9 (Or.inr rfl) hS dL_loadKey_8 (fun H2 locs hO8 hsm8 hS => ?_)
    refine lv_goto (tgt := 15) hx hb dL_loadKey_9 (by decide) ?_
    refine lv_iconst (v := nI 0) hx hb dL_loadKey_15 (by decide) ?_
    refine thx_iret hx hb hr hlk hQ hS dL_loadKey_16 (Nat.le_of_ble_eq_true rfl) (Nat.le_of_ble_eq_true rfl) ?_
    exact th_lpT hr9 (congrArg Int32.toInt64 he9) (th_GWo hg9 hno hsm8) hO8

theorem kq_change (S : th_S) (x1 x2 : Int32) : th_Kq S (sp_change S x1 x2) := by
  unfold sp_change
  repeat' (first | exact th_Kq0 | exact th_KqS | refine th_KqI ?_ ?_)
set_option maxRecDepth 100000 in
set_option maxHeartbeats 800000 in
theorem c_L_change (l : Launch) (hl0 : l.stackTraces = false) (Y : th_Y) (H0 : Heap) (ad : Nat → Nat) (S : th_S) (Vx B : Nat → Nat → Int32) (dsx kvx ks : Nat → Int32) (wy : Nat → Nat) (wz : Nat → Nat → Int32) (hI : th_I Y ad S Vx B dsx kvx ks wy wz H0) (oo : Nat) (f9 : Nat → Int64) (hO : va_at Y.1 vwCl (oo, .inl (Y.2 4, 1, .inr (.inl f9))) H0) (hno : ¬ th_gA ad S.1 H0.size oo) (x1 x2 : Int32) : th_MW l Y yL_change cL_change 5 [(0, 10, 13, 13), (0, 10, 17, 15), (0, 10, 21, 17)] (th_rm 12 8 400) [.ref (ad 0), .int x1, .int x2, .ref oo] H0 (fun q => th_gA ad S.1 H0.size q ∨ q = oo) (th_lp Y (ad 0) (th_gA ad S.1 H0.size) oo (sp_change S x1 x2)) := by
  refine th_MW.intro (by decide) (Nat.le_of_ble_eq_true rfl) ?_
  intro p e s m args below meth c ls Q hQ C hKN hl hS hX htab
  obtain ⟨hx, hb, hr, hml, hown, hts, hlk, hnm⟩ := C
  obtain ⟨hK, hN⟩ := hKN
  have hown : s.vm.findClass RL = some m.cls := hown
  have hl : lv_has ls 5 [(0, .ref (ad 0)), (1, .int x1), (2, .int x2), (3, .ref oo)] := hl
  refine lv_aload_n hx hb dL_change_0 rfl (lv_at hl 3 rfl) ?_
  refine lv_iconst (v := nI 0) hx hb dL_change_1 (by decide) ?_
  refine lv_aload_n hx hb dL_change_2 rfl (lv_at hl 0 rfl) ?_
  refine lv_iload_n hx hb dL_change_3 rfl (lv_at hl 1 rfl) ?_
  refine lv_iload_n hx hb dL_change_4 rfl (lv_at hl 2 rfl) ?_
  have hAs : ∀ q : Nat, th_gA ad S.1 H0.size q → th_gA ad S.1 H0.size q := fun _ h9 => h9
  refine thw_callV hx hb hml hown hts ⟨hK, hN⟩ hl hS ⟨hX.1, hX.2.1⟩ ((th_gO hI.1) 0 _ rfl) rfl (rest := [.int (nI 0), .ref oo]) (c_X5_change l hl0 Y _ ad S Vx B dsx kvx ks wy wz hI x1 x2) ok_X5_change tw_2_206 dL_change_5 rfl rfl (Nat.le_of_ble_eq_true rfl) ⟨(Nat.le_of_ble_eq_true rfl), (Nat.le_of_ble_eq_true rfl)⟩ ⟨(Nat.le_of_ble_eq_true rfl), (Nat.le_of_ble_eq_true rfl)⟩ (fun _ h9 => Or.inl (hAs _ h9)) ?_ ?_
  · rintro E9 ce9 q9 H9 locs9 ⟨n9, hn9, hr9, hg9⟩ hsm9 hS hc9 hv9 hcl9
    have h39 : n9 < 3 := (List.getElem?_eq_some_iff.mp hn9).1
    rcases (show n9 = 0 ∨ n9 = 1 ∨ n9 = 2 by omega) with rfl | rfl | rfl
    · skip
      obtain rfl : "java/lang/IndexOutOfBoundsException" = E9 := Option.some.inj hn9
      refine thw_catch hown htab [] [(0, 10, 17, 15), (0, 10, 21, 17)] 0 10 13 13 rfl (fun _ h9 => absurd h9 List.not_mem_nil) (by decide) (by decide) (by decide) (hts _ tw_1_168) (th_caIO hX.1) hc9 hv9 hcl9 ?_
      refine lv_astore (lv' := [(4, .ref q9), (0, .ref (ad 0)), (1, .int x1), (2, .int x2), (3, .ref oo)]) hx hb dL_change_13 hl (by decide) rfl (fun ls hl => ?_)
      refine lv_iconst (v := nI 1) hx hb dL_change_15 (by decide) ?_
      refine thx_iret hx hb hr hlk hQ hS dL_change_16 (Nat.le_of_ble_eq_true rfl) (Nat.le_of_ble_eq_true rfl) ?_
      exact th_lpX hr9 (kq_change S x1 x2) hg9 (hO.kept (hsm9.2 _ hO.lt (fun z9 => hno (hAs _ z9))))
    · skip
      obtain rfl : "java/lang/IllegalArgumentException" = E9 := Option.some.inj hn9
      refine thw_catch hown htab [(0, 10, 13, 13)] [(0, 10, 21, 17)] 0 10 17 15 rfl (List.forall_mem_cons.mpr ⟨⟨by decide, _, hts _ tw_1_168, hX.2.2.1⟩, fun _ h9 => absurd h9 List.not_mem_nil⟩) (by decide) (by decide) (by decide) (hts _ tw_1_169) (th_caIA hX.1) hc9 hv9 hcl9 ?_
      refine lv_astore (lv' := [(4, .ref q9), (0, .ref (ad 0)), (1, .int x1), (2, .int x2), (3, .ref oo)]) hx hb dL_change_17 hl (by decide) rfl (fun ls hl => ?_)
      refine lv_iconst (v := nI 2) hx hb dL_change_19 (by decide) ?_
      refine thx_iret hx hb hr hlk hQ hS dL_change_20 (Nat.le_of_ble_eq_true rfl) (Nat.le_of_ble_eq_true rfl) ?_
      exact th_lpX hr9 (kq_change S x1 x2) hg9 (hO.kept (hsm9.2 _ hO.lt (fun z9 => hno (hAs _ z9))))
    · skip
      obtain rfl : "java/lang/IllegalStateException" = E9 := Option.some.inj hn9
      refine thw_catch hown htab [(0, 10, 13, 13), (0, 10, 17, 15)] [] 0 10 21 17 rfl (List.forall_mem_cons.mpr ⟨⟨by decide, _, hts _ tw_1_168, hX.2.2.2.1⟩, List.forall_mem_cons.mpr ⟨⟨by decide, _, hts _ tw_1_169, hX.2.2.2.2⟩, fun _ h9 => absurd h9 List.not_mem_nil⟩⟩) (by decide) (by decide) (by decide) (hts _ tw_1_170) (th_caIS hX.1) hc9 hv9 hcl9 ?_
      refine lv_astore (lv' := [(4, .ref q9), (0, .ref (ad 0)), (1, .int x1), (2, .int x2), (3, .ref oo)]) hx hb dL_change_21 hl (by decide) rfl (fun ls hl => ?_)
      refine lv_iconst (v := nI 3) hx hb dL_change_23 (by decide) ?_
      refine thx_iret hx hb hr hlk hQ hS dL_change_24 (Nat.le_of_ble_eq_true rfl) (Nat.le_of_ble_eq_true rfl) ?_
      exact th_lpX hr9 (kq_change S x1 x2) hg9 (hO.kept (hsm9.2 _ hO.lt (fun z9 => hno (hAs _ z9))))
  · skip
    rintro v9 H locs9 ⟨x9, rfl, hr9, he9, hg9⟩ hsm9 hS
    have hO9 := hO.kept (hsm9.2 _ hO.lt (fun z9 => hno (hAs _ z9)))
    refine lv_i2l hx hb dL_change_8 rfl ?_
    refine th_lastS hx hb hK hO9 (Or.inr rfl) hS dL_change_9 (fun H2 locs hO8 hsm8 hS => ?_)
    refine lv_goto (tgt := 25) hx hb dL_change_10 (by decide) ?_
    refine lv_iconst (v := nI 0) hx hb dL_change_25 (by decide) ?_
    refine thx_iret hx hb hr hlk hQ hS dL_change_26 (Nat.le_of_ble_eq_true rfl) (Nat.le_of_ble_eq_true rfl) ?_
    exact th_lpT hr9 (congrArg Int32.toInt64 he9) (th_GWo hg9 hno hsm8) hO8

theorem kq_shorten (S : th_S) : th_Kq S (sp_shorten S) := by
  unfold sp_shorten
  repeat' (first | exact th_Kq0 | exact th_KqS | refine th_KqI ?_ ?_)
set_option maxRecDepth 100000 in
set_option maxHeartbeats 800000 in
theorem c_L_shorten (l : Launch) (hl0 : l.stackTraces = false) (Y : th_Y) (H0 : Heap) (ad : Nat → Nat) (S : th_S) (Vx B : Nat → Nat → Int32) (dsx kvx ks : Nat → Int32) (wy : Nat → Nat) (wz : Nat → Nat → Int32) (hI : th_I Y ad S Vx B dsx kvx ks wy wz H0) (oo : Nat) (f9 : Nat → Int64) (hO : va_at Y.1 vwCl (oo, .inl (Y.2 4, 1, .inr (.inl f9))) H0) (hno : ¬ th_gA ad S.1 H0.size oo) : th_MW l Y yL_shorten cL_shorten 3 [(0, 8, 11, 17)] (th_rm 12 8 400) [.ref (ad 0), .ref oo] H0 (fun q => th_gA ad S.1 H0.size q ∨ q = oo) (th_lp Y (ad 0) (th_gA ad S.1 H0.size) oo (sp_shorten S)) := by
  refine th_MW.intro (by decide) (Nat.le_of_ble_eq_true rfl) ?_
  intro p e s m args below meth c ls Q hQ C hKN hl hS hX htab
  obtain ⟨hx, hb, hr, hml, hown, hts, hlk, hnm⟩ := C
  obtain ⟨hK, hN⟩ := hKN
  have hown : s.vm.findClass RL = some m.cls := hown
  have hl : lv_has ls 3 [(0, .ref (ad 0)), (1, .ref oo)] := hl
  refine lv_aload_n hx hb dL_shorten_0 rfl (lv_at hl 1 rfl) ?_
  refine lv_iconst (v := nI 0) hx hb dL_shorten_1 (by decide) ?_
  refine lv_aload_n hx hb dL_shorten_2 rfl (lv_at hl 0 rfl) ?_
  have hAs : ∀ q : Nat, th_gA ad S.1 H0.size q → th_gA ad S.1 H0.size q := fun _ h9 => h9
  refine thw_callV hx hb hml hown hts ⟨hK, hN⟩ hl hS ⟨hX.1, hX.2.1⟩ ((th_gO hI.1) 0 _ rfl) rfl (rest := [.int (nI 0), .ref oo]) (c_X5_shorten l hl0 Y _ ad S Vx B dsx kvx ks wy wz hI) ok_X5_shorten tw_2_220 dL_shorten_3 rfl rfl (Nat.le_of_ble_eq_true rfl) ⟨(Nat.le_of_ble_eq_true rfl), (Nat.le_of_ble_eq_true rfl)⟩ ⟨(Nat.le_of_ble_eq_true rfl), (Nat.le_of_ble_eq_true rfl)⟩ (fun _ h9 => Or.inl (hAs _ h9)) ?_ ?_
  · rintro E9 ce9 q9 H9 locs9 ⟨n9, hn9, hr9, hg9⟩ hsm9 hS hc9 hv9 hcl9
    have h39 : n9 < 1 := (List.getElem?_eq_some_iff.mp hn9).1
    obtain rfl : n9 = 0 := by omega
    obtain rfl : "java/lang/IllegalStateException" = E9 := Option.some.inj hn9
    refine thw_catch hown htab [] [] 0 8 11 17 rfl (fun _ h9 => absurd h9 List.not_mem_nil) (by decide) (by decide) (by decide) (hts _ tw_1_170) (th_caIS hX.1) hc9 hv9 hcl9 ?_
    refine lv_astore_n (lv' := [(2, .ref q9), (0, .ref (ad 0)), (1, .ref oo)]) hx hb dL_shorten_11 rfl hl (by decide) rfl (fun ls hl => ?_)
    refine lv_iconst (v := nI 1) hx hb dL_shorten_12 (by decide) ?_
    refine thx_iret hx hb hr hlk hQ hS dL_shorten_13 (Nat.le_of_ble_eq_true rfl) (Nat.le_of_ble_eq_true rfl) ?_
    exact th_lpX hr9 (kq_shorten S) hg9 (hO.kept (hsm9.2 _ hO.lt (fun z9 => hno (hAs _ z9))))
  · skip
    rintro v9 H locs9 ⟨x9, rfl, hr9, he9, hg9⟩ hsm9 hS
    have hO9 := hO.kept (hsm9.2 _ hO.lt (fun z9 => hno (hAs _ z9)))
    refine lv_i2l hx hb dL_shorten_6 rfl ?_
    refine th_lastS hx hb hK hO9 (Or.inr rfl) hS dL_shorten_7 (fun H2 locs hO8 hsm8 hS => ?_)
    refine lv_goto (tgt := 14) hx hb dL_shorten_8 (by decide) ?_
    refine lv_iconst (v := nI 0) hx hb dL_shorten_14 (by decide) ?_
    refine thx_iret hx hb hr hlk hQ hS dL_shorten_15 (Nat.le_of_ble_eq_true rfl) (Nat.le_of_ble_eq_true rfl) ?_
    exact th_lpT hr9 (congrArg Int32.toInt64 he9) (th_GWo hg9 hno hsm8) hO8

theorem kq_sumAt (S : th_S) (x1 : Int32) : th_Kq S (sp_sumAt S x1) := by
  unfold sp_sumAt
  repeat' (first | exact th_Kq0 | exact th_KqS | refine th_KqI ?_ ?_)
set_option maxRecDepth 100000 in
set_option maxHeartbeats 800000 in
theorem c_L_sumAt (l : Launch) (hl0 : l.stackTraces = false) (Y : th_Y) (H0 : Heap) (ad : Nat → Nat) (S : th_S) (Vx B : Nat → Nat → Int32) (dsx kvx ks : Nat → Int32) (wy : Nat → Nat) (wz : Nat → Nat → Int32) (hI : th_I Y ad S Vx B dsx kvx ks wy wz H0) (oo : Nat) (f9 : Nat → Int64) (hO : va_at Y.1 vwCl (oo, .inl (Y.2 4, 1, .inr (.inl f9))) H0) (hno : ¬ th_gA ad S.1 H0.size oo) (x1 : Int32) : th_MW l Y yL_sumAt cL_sumAt 4 [(0, 9, 12, 13)] (th_rm 12 8 400) [.ref (ad 0), .int x1, .ref oo] H0 (fun q => th_gA ad S.1 H0.size q ∨ q = oo) (th_lp Y (ad 0) (th_gA ad S.1 H0.size) oo (sp_sumAt S x1)) := by
  refine th_MW.intro (by decide) (Nat.le_of_ble_eq_true rfl) ?_
  intro p e s m args below meth c ls Q hQ C hKN hl hS hX htab
  obtain ⟨hx, hb, hr, hml, hown, hts, hlk, hnm⟩ := C
  obtain ⟨hK, hN⟩ := hKN
  have hown : s.vm.findClass RL = some m.cls := hown
  have hl : lv_has ls 4 [(0, .ref (ad 0)), (1, .int x1), (2, .ref oo)] := hl
  refine lv_aload_n hx hb dL_sumAt_0 rfl (lv_at hl 2 rfl) ?_
  refine lv_iconst (v := nI 0) hx hb dL_sumAt_1 (by decide) ?_
  refine lv_aload_n hx hb dL_sumAt_2 rfl (lv_at hl 0 rfl) ?_
  refine lv_iload_n hx hb dL_sumAt_3 rfl (lv_at hl 1 rfl) ?_
  have hAs : ∀ q : Nat, th_gA ad S.1 H0.size q → th_gA ad S.1 H0.size q := fun _ h9 => h9
  refine thw_callV hx hb hml hown hts ⟨hK, hN⟩ hl hS ⟨hX.1, hX.2.1⟩ ((th_gO hI.1) 0 _ rfl) rfl (rest := [.int (nI 0), .ref oo]) (c_X5_sumAt l hl0 Y _ ad S Vx B dsx kvx ks wy wz hI x1) ok_X5_sumAt tw_2_236 dL_sumAt_4 rfl rfl (Nat.le_of_ble_eq_true rfl) ⟨(Nat.le_of_ble_eq_true rfl), (Nat.le_of_ble_eq_true rfl)⟩ ⟨(Nat.le_of_ble_eq_true rfl), (Nat.le_of_ble_eq_true rfl)⟩ (fun _ h9 => Or.inl (hAs _ h9)) ?_ ?_
  · rintro E9 ce9 q9 H9 locs9 ⟨n9, hn9, hr9, hg9⟩ hsm9 hS hc9 hv9 hcl9
    have h39 : n9 < 1 := (List.getElem?_eq_some_iff.mp hn9).1
    obtain rfl : n9 = 0 := by omega
    obtain rfl : "java/lang/IndexOutOfBoundsException" = E9 := Option.some.inj hn9
    refine thw_catch hown htab [] [] 0 9 12 13 rfl (fun _ h9 => absurd h9 List.not_mem_nil) (by decide) (by decide) (by decide) (hts _ tw_1_168) (th_caIO hX.1) hc9 hv9 hcl9 ?_
    refine lv_astore_n (lv' := [(3, .ref q9), (0, .ref (ad 0)), (1, .int x1), (2, .ref oo)]) hx hb dL_sumAt_12 rfl hl (by decide) rfl (fun ls hl => ?_)
    refine lv_iconst (v := nI 1) hx hb dL_sumAt_13 (by decide) ?_
    refine thx_iret hx hb hr hlk hQ hS dL_sumAt_14 (Nat.le_of_ble_eq_true rfl) (Nat.le_of_ble_eq_true rfl) ?_
    exact th_lpX hr9 (kq_sumAt S x1) hg9 (hO.kept (hsm9.2 _ hO.lt (fun z9 => hno (hAs _ z9))))
  · skip
    rintro v9 H locs9 ⟨x9, rfl, hr9, he9, hg9⟩ hsm9 hS
    have hO9 := hO.kept (hsm9.2 _ hO.lt (fun z9 => hno (hAs _ z9)))
    refine lv_i2l hx hb dL_sumAt_7 rfl ?_
    refine th_lastS hx hb hK hO9 (Or.inr rfl) hS dL_sumAt_8 (fun H2 locs hO8 hsm8 hS => ?_)
    refine lv_goto (tgt := 15) hx hb dL_sumAt_9 (by decide) ?_
    refine lv_iconst (v := nI 0) hx hb dL_sumAt_15 (by decide) ?_
    refine thx_iret hx hb hr hlk hQ hS dL_sumAt_16 (Nat.le_of_ble_eq_true rfl) (Nat.le_of_ble_eq_true rfl) ?_
    exact th_lpT hr9 (congrArg Int32.toInt64 he9) (th_GWo hg9 hno hsm8) hO8

theorem kq_testLeaf (S : th_S) (x1 x2 x3 x4 : Int32) : th_Kq S (sp_testLeaf S x1 x2 x3 x4) := by
  unfold sp_testLeaf
  repeat' (first | exact th_Kq0 | exact th_KqS | refine th_KqI ?_ ?_)
theorem kb_testLeaf (S : th_S) (x1 x2 x3 x4 : Int32) : th_Kb (sp_testLeaf S x1 x2 x3 x4) := by
  unfold sp_testLeaf
  repeat' (first | exact th_Kbb | exact th_Kb1 | exact th_Kb0 | exact th_KbS | refine th_KbI (fun _ => ?_) ?_)
set_option maxRecDepth 100000 in
set_option maxHeartbeats 800000 in
theorem c_L_testLeaf (l : Launch) (hl0 : l.stackTraces = false) (Y : th_Y) (H0 : Heap) (ad : Nat → Nat) (S : th_S) (Vx B : Nat → Nat → Int32) (dsx kvx ks : Nat → Int32) (wy : Nat → Nat) (wz : Nat → Nat → Int32) (hI : th_I Y ad S Vx B dsx kvx ks wy wz H0) (oo : Nat) (f9 : Nat → Int64) (hO : va_at Y.1 vwCl (oo, .inl (Y.2 4, 1, .inr (.inl f9))) H0) (hno : ¬ th_gA ad S.1 H0.size oo) (x1 x2 x3 x4 : Int32) : th_MW l Y yL_testLeaf cL_testLeaf 7 [(0, 21, 24, 13), (0, 21, 28, 15)] (th_rm 12 8 400) [.ref (ad 0), .int x1, .int x2, .int x3, .int x4, .ref oo] H0 (fun q => th_gA ad S.1 H0.size q ∨ q = oo) (th_lp Y (ad 0) (th_gA ad S.1 H0.size) oo (sp_testLeaf S x1 x2 x3 x4)) := by
  refine th_MW.intro (by decide) (Nat.le_of_ble_eq_true rfl) ?_
  intro p e s m args below meth c ls Q hQ C hKN hl hS hX htab
  obtain ⟨hx, hb, hr, hml, hown, hts, hlk, hnm⟩ := C
  obtain ⟨hK, hN⟩ := hKN
  have hown : s.vm.findClass RL = some m.cls := hown
  have hl : lv_has ls 7 [(0, .ref (ad 0)), (1, .int x1), (2, .int x2), (3, .int x3), (4, .int x4), (5, .ref oo)] := hl
  refine lv_aload hx hb dL_testLeaf_0 (lv_at hl 5 rfl) ?_
  refine lv_iconst (v := nI 0) hx hb dL_testLeaf_2 (by decide) ?_
  refine lv_aload_n hx hb dL_testLeaf_3 rfl (lv_at hl 0 rfl) ?_
  refine lv_iload_n hx hb dL_testLeaf_4 rfl (lv_at hl 1 rfl) ?_
  refine lv_iload_n hx hb dL_testLeaf_5 rfl (lv_at hl 2 rfl) ?_
  refine lv_iload_n hx hb dL_testLeaf_6 rfl (lv_at hl 3 rfl) ?_
  refine lv_iload hx hb dL_testLeaf_7 (lv_at hl 4 rfl) ?_
  have hAs : ∀ q : Nat, th_gA ad S.1 H0.size q → th_gA ad S.1 H0.size q := fun _ h9 => h9
  refine thw_callV hx hb hml hown hts ⟨hK, hN⟩ hl hS ⟨hX.1, hX.2.1⟩ ((th_gO hI.1) 0 _ rfl) rfl (rest := [.int (nI 0), .ref oo]) (c_X5_testLeaf l hl0 Y _ ad S Vx B dsx kvx ks wy wz hI x1 x2 x3 x4) ok_X5_testLeaf tw_3_5 dL_testLeaf_9 rfl rfl (Nat.le_of_ble_eq_true rfl) ⟨(Nat.le_of_ble_eq_true rfl), (Nat.le_of_ble_eq_true rfl)⟩ ⟨(Nat.le_of_ble_eq_true rfl), (Nat.le_of_ble_eq_true rfl)⟩ (fun _ h9 => Or.inl (hAs _ h9)) ?_ ?_
  · rintro E9 ce9 q9 H9 locs9 ⟨n9, hn9, hr9, hg9⟩ hsm9 hS hc9 hv9 hcl9
    have h39 : n9 < 2 := (List.getElem?_eq_some_iff.mp hn9).1
    rcases (show n9 = 0 ∨ n9 = 1 by omega) with rfl | rfl
    · skip
      obtain rfl : "java/lang/IndexOutOfBoundsException" = E9 := Option.some.inj hn9
      refine thw_catch hown htab [] [(0, 21, 28, 15)] 0 21 24 13 rfl (fun _ h9 => absurd h9 List.not_mem_nil) (by decide) (by decide) (by decide) (hts _ tw_1_168) (th_caIO hX.1) hc9 hv9 hcl9 ?_
      refine lv_astore (lv' := [(6, .ref q9), (0, .ref (ad 0)), (1, .int x1), (2, .int x2), (3, .int x3), (4, .int x4), (5, .ref oo)]) hx hb dL_testLeaf_24 hl (by decide) rfl (fun ls hl => ?_)
      refine lv_iconst (v := nI 1) hx hb dL_testLeaf_26 (by decide) ?_
      refine thx_iret hx hb hr hlk hQ hS dL_testLeaf_27 (Nat.le_of_ble_eq_true rfl) (Nat.le_of_ble_eq_true rfl) ?_
      exact th_lpX hr9 (kq_testLeaf S x1 x2 x3 x4) hg9 (hO.kept (hsm9.2 _ hO.lt (fun z9 => hno (hAs _ z9))))
    · skip
      obtain rfl : "java/lang/IllegalArgumentException" = E9 := Option.some.inj hn9
      refine thw_catch hown htab [(0, 21, 24, 13)] [] 0 21 28 15 rfl (List.forall_mem_cons.mpr ⟨⟨by decide, _, hts _ tw_1_168, hX.2.2.1⟩, fun _ h9 => absurd h9 List.not_mem_nil⟩) (by decide) (by decide) (by decide) (hts _ tw_1_169) (th_caIA hX.1) hc9 hv9 hcl9 ?_
      refine lv_astore (lv' := [(6, .ref q9), (0, .ref (ad 0)), (1, .int x1), (2, .int x2), (3, .int x3), (4, .int x4), (5, .ref oo)]) hx hb dL_testLeaf_28 hl (by decide) rfl (fun ls hl => ?_)
      refine lv_iconst (v := nI 2) hx hb dL_testLeaf_30 (by decide) ?_
      refine thx_iret hx hb hr hlk hQ hS dL_testLeaf_31 (Nat.le_of_ble_eq_true rfl) (Nat.le_of_ble_eq_true rfl) ?_
      exact th_lpX hr9 (kq_testLeaf S x1 x2 x3 x4) hg9 (hO.kept (hsm9.2 _ hO.lt (fun z9 => hno (hAs _ z9))))
  · skip
    rintro v9 H locs9 ⟨x9, rfl, hr9, he9, hg9⟩ hsm9 hS
    have hO9 := hO.kept (hsm9.2 _ hO.lt (fun z9 => hno (hAs _ z9)))
    refine lv_if_eq (tgt := 19) hx hb dL_testLeaf_12 (by decide) (fun c_1 => ?_) (fun c_1 => ?_)
    · skip
      refine lv_lconst (v := 0) hx hb dL_testLeaf_19 (by decide) ?_
      refine th_lastS hx hb hK hO9 (Or.inr rfl) hS dL_testLeaf_20 (fun H2 locs hO8 hsm8 hS => ?_)
      refine lv_goto (tgt := 32) hx hb dL_testLeaf_21 (by decide) ?_
      refine lv_iconst (v := nI 0) hx hb dL_testLeaf_32 (by decide) ?_
      refine thx_iret hx hb hr hlk hQ hS dL_testLeaf_33 (Nat.le_of_ble_eq_true rfl) (Nat.le_of_ble_eq_true rfl) ?_
      exact th_lpT hr9 (show (0 : Int64) = _ from by rw [← he9, c_1]; rfl) (th_GWo hg9 hno hsm8) hO8
    refine lv_lconst (v := 1) hx hb dL_testLeaf_15 (by decide) ?_
    refine lv_goto (tgt := 20) hx hb dL_testLeaf_16 (by decide) ?_
    refine th_lastS hx hb hK hO9 (Or.inr rfl) hS dL_testLeaf_20 (fun H2 locs hO8 hsm8 hS => ?_)
    refine lv_goto (tgt := 32) hx hb dL_testLeaf_21 (by decide) ?_
    refine lv_iconst (v := nI 0) hx hb dL_testLeaf_32 (by decide) ?_
    refine thx_iret hx hb hr hlk hQ hS dL_testLeaf_33 (Nat.le_of_ble_eq_true rfl) (Nat.le_of_ble_eq_true rfl) ?_
    exact th_lpT hr9 (show (1 : Int64) = _ from by rw [((kb_testLeaf S x1 x2 x3 x4) hr9).resolve_left (fun z9 => c_1 (he9.trans z9))]; rfl) (th_GWo hg9 hno hsm8) hO8

theorem kq_testGrowth (S : th_S) (x1 x2 x3 x4 : Int32) : th_Kq S (sp_testGrowth S x1 x2 x3 x4) := by
  unfold sp_testGrowth
  repeat' (first | exact th_Kq0 | exact th_KqS | refine th_KqI ?_ ?_)
theorem kb_testGrowth (S : th_S) (x1 x2 x3 x4 : Int32) : th_Kb (sp_testGrowth S x1 x2 x3 x4) := by
  unfold sp_testGrowth
  repeat' (first | exact th_Kbb | exact th_Kb1 | exact th_Kb0 | exact th_KbS | refine th_KbI (fun _ => ?_) ?_)
set_option maxRecDepth 100000 in
set_option maxHeartbeats 800000 in
theorem c_L_testGrowth (l : Launch) (hl0 : l.stackTraces = false) (Y : th_Y) (H0 : Heap) (ad : Nat → Nat) (S : th_S) (Vx B : Nat → Nat → Int32) (dsx kvx ks : Nat → Int32) (wy : Nat → Nat) (wz : Nat → Nat → Int32) (hI : th_I Y ad S Vx B dsx kvx ks wy wz H0) (oo : Nat) (f9 : Nat → Int64) (hO : va_at Y.1 vwCl (oo, .inl (Y.2 4, 1, .inr (.inl f9))) H0) (hno : ¬ th_gA ad S.1 H0.size oo) (x1 x2 x3 x4 : Int32) : th_MW l Y yL_testGrowth cL_testGrowth 7 [(0, 21, 24, 13), (0, 21, 28, 15)] (th_rm 12 8 400) [.ref (ad 0), .int x1, .int x2, .int x3, .int x4, .ref oo] H0 (fun q => th_gA ad S.1 H0.size q ∨ q = oo) (th_lp Y (ad 0) (th_gA ad S.1 H0.size) oo (sp_testGrowth S x1 x2 x3 x4)) := by
  refine th_MW.intro (by decide) (Nat.le_of_ble_eq_true rfl) ?_
  intro p e s m args below meth c ls Q hQ C hKN hl hS hX htab
  obtain ⟨hx, hb, hr, hml, hown, hts, hlk, hnm⟩ := C
  obtain ⟨hK, hN⟩ := hKN
  have hown : s.vm.findClass RL = some m.cls := hown
  have hl : lv_has ls 7 [(0, .ref (ad 0)), (1, .int x1), (2, .int x2), (3, .int x3), (4, .int x4), (5, .ref oo)] := hl
  refine lv_aload hx hb dL_testGrowth_0 (lv_at hl 5 rfl) ?_
  refine lv_iconst (v := nI 0) hx hb dL_testGrowth_2 (by decide) ?_
  refine lv_aload_n hx hb dL_testGrowth_3 rfl (lv_at hl 0 rfl) ?_
  refine lv_iload_n hx hb dL_testGrowth_4 rfl (lv_at hl 1 rfl) ?_
  refine lv_iload_n hx hb dL_testGrowth_5 rfl (lv_at hl 2 rfl) ?_
  refine lv_iload_n hx hb dL_testGrowth_6 rfl (lv_at hl 3 rfl) ?_
  refine lv_iload hx hb dL_testGrowth_7 (lv_at hl 4 rfl) ?_
  have hAs : ∀ q : Nat, th_gA ad S.1 H0.size q → th_gA ad S.1 H0.size q := fun _ h9 => h9
  refine thw_callV hx hb hml hown hts ⟨hK, hN⟩ hl hS ⟨hX.1, hX.2.1⟩ ((th_gO hI.1) 0 _ rfl) rfl (rest := [.int (nI 0), .ref oo]) (c_X5_testGrowth l hl0 Y _ ad S Vx B dsx kvx ks wy wz hI x1 x2 x3 x4) ok_X5_testGrowth tw_3_22 dL_testGrowth_9 rfl rfl (Nat.le_of_ble_eq_true rfl) ⟨(Nat.le_of_ble_eq_true rfl), (Nat.le_of_ble_eq_true rfl)⟩ ⟨(Nat.le_of_ble_eq_true rfl), (Nat.le_of_ble_eq_true rfl)⟩ (fun _ h9 => Or.inl (hAs _ h9)) ?_ ?_
  · rintro E9 ce9 q9 H9 locs9 ⟨n9, hn9, hr9, hg9⟩ hsm9 hS hc9 hv9 hcl9
    have h39 : n9 < 2 := (List.getElem?_eq_some_iff.mp hn9).1
    rcases (show n9 = 0 ∨ n9 = 1 by omega) with rfl | rfl
    · skip
      obtain rfl : "java/lang/IndexOutOfBoundsException" = E9 := Option.some.inj hn9
      refine thw_catch hown htab [] [(0, 21, 28, 15)] 0 21 24 13 rfl (fun _ h9 => absurd h9 List.not_mem_nil) (by decide) (by decide) (by decide) (hts _ tw_1_168) (th_caIO hX.1) hc9 hv9 hcl9 ?_
      refine lv_astore (lv' := [(6, .ref q9), (0, .ref (ad 0)), (1, .int x1), (2, .int x2), (3, .int x3), (4, .int x4), (5, .ref oo)]) hx hb dL_testGrowth_24 hl (by decide) rfl (fun ls hl => ?_)
      refine lv_iconst (v := nI 1) hx hb dL_testGrowth_26 (by decide) ?_
      refine thx_iret hx hb hr hlk hQ hS dL_testGrowth_27 (Nat.le_of_ble_eq_true rfl) (Nat.le_of_ble_eq_true rfl) ?_
      exact th_lpX hr9 (kq_testGrowth S x1 x2 x3 x4) hg9 (hO.kept (hsm9.2 _ hO.lt (fun z9 => hno (hAs _ z9))))
    · skip
      obtain rfl : "java/lang/IllegalArgumentException" = E9 := Option.some.inj hn9
      refine thw_catch hown htab [(0, 21, 24, 13)] [] 0 21 28 15 rfl (List.forall_mem_cons.mpr ⟨⟨by decide, _, hts _ tw_1_168, hX.2.2.1⟩, fun _ h9 => absurd h9 List.not_mem_nil⟩) (by decide) (by decide) (by decide) (hts _ tw_1_169) (th_caIA hX.1) hc9 hv9 hcl9 ?_
      refine lv_astore (lv' := [(6, .ref q9), (0, .ref (ad 0)), (1, .int x1), (2, .int x2), (3, .int x3), (4, .int x4), (5, .ref oo)]) hx hb dL_testGrowth_28 hl (by decide) rfl (fun ls hl => ?_)
      refine lv_iconst (v := nI 2) hx hb dL_testGrowth_30 (by decide) ?_
      refine thx_iret hx hb hr hlk hQ hS dL_testGrowth_31 (Nat.le_of_ble_eq_true rfl) (Nat.le_of_ble_eq_true rfl) ?_
      exact th_lpX hr9 (kq_testGrowth S x1 x2 x3 x4) hg9 (hO.kept (hsm9.2 _ hO.lt (fun z9 => hno (hAs _ z9))))
  · skip
    rintro v9 H locs9 ⟨x9, rfl, hr9, he9, hg9⟩ hsm9 hS
    have hO9 := hO.kept (hsm9.2 _ hO.lt (fun z9 => hno (hAs _ z9)))
    refine lv_if_eq (tgt := 19) hx hb dL_testGrowth_12 (by decide) (fun c_1 => ?_) (fun c_1 => ?_)
    · skip
      refine lv_lconst (v := 0) hx hb dL_testGrowth_19 (by decide) ?_
      refine th_lastS hx hb hK hO9 (Or.inr rfl) hS dL_testGrowth_20 (fun H2 locs hO8 hsm8 hS => ?_)
      refine lv_goto (tgt := 32) hx hb dL_testGrowth_21 (by decide) ?_
      refine lv_iconst (v := nI 0) hx hb dL_testGrowth_32 (by decide) ?_
      refine thx_iret hx hb hr hlk hQ hS dL_testGrowth_33 (Nat.le_of_ble_eq_true rfl) (Nat.le_of_ble_eq_true rfl) ?_
      exact th_lpT hr9 (show (0 : Int64) = _ from by rw [← he9, c_1]; rfl) (th_GWo hg9 hno hsm8) hO8
    refine lv_lconst (v := 1) hx hb dL_testGrowth_15 (by decide) ?_
    refine lv_goto (tgt := 20) hx hb dL_testGrowth_16 (by decide) ?_
    refine th_lastS hx hb hK hO9 (Or.inr rfl) hS dL_testGrowth_20 (fun H2 locs hO8 hsm8 hS => ?_)
    refine lv_goto (tgt := 32) hx hb dL_testGrowth_21 (by decide) ?_
    refine lv_iconst (v := nI 0) hx hb dL_testGrowth_32 (by decide) ?_
    refine thx_iret hx hb hr hlk hQ hS dL_testGrowth_33 (Nat.le_of_ble_eq_true rfl) (Nat.le_of_ble_eq_true rfl) ?_
    exact th_lpT hr9 (show (1 : Int64) = _ from by rw [((kb_testGrowth S x1 x2 x3 x4) hr9).resolve_left (fun z9 => c_1 (he9.trans z9))]; rfl) (th_GWo hg9 hno hsm8) hO8

theorem kq_testKey (S : th_S) (x1 x2 : Int32) : th_Kq S (sp_testKey S x1 x2) := by
  unfold sp_testKey
  repeat' (first | exact th_Kq0 | exact th_KqS | refine th_KqI ?_ ?_)
theorem kb_testKey (S : th_S) (x1 x2 : Int32) : th_Kb (sp_testKey S x1 x2) := by
  unfold sp_testKey
  repeat' (first | exact th_Kbb | exact th_Kb1 | exact th_Kb0 | exact th_KbS | refine th_KbI (fun _ => ?_) ?_)
set_option maxRecDepth 100000 in
set_option maxHeartbeats 800000 in
theorem c_L_testKey (l : Launch) (hl0 : l.stackTraces = false) (Y : th_Y) (H0 : Heap) (ad : Nat → Nat) (S : th_S) (Vx B : Nat → Nat → Int32) (dsx kvx ks : Nat → Int32) (wy : Nat → Nat) (wz : Nat → Nat → Int32) (hI : th_I Y ad S Vx B dsx kvx ks wy wz H0) (oo : Nat) (f9 : Nat → Int64) (hO : va_at Y.1 vwCl (oo, .inl (Y.2 4, 1, .inr (.inl f9))) H0) (hno : ¬ th_gA ad S.1 H0.size oo) (x1 x2 : Int32) : th_MW l Y yL_testKey cL_testKey 5 [(0, 17, 20, 15)] (th_rm 12 8 400) [.ref (ad 0), .int x1, .int x2, .ref oo] H0 (fun q => th_gA ad S.1 H0.size q ∨ q = oo) (th_lp Y (ad 0) (th_gA ad S.1 H0.size) oo (sp_testKey S x1 x2)) := by
  refine th_MW.intro (by decide) (Nat.le_of_ble_eq_true rfl) ?_
  intro p e s m args below meth c ls Q hQ C hKN hl hS hX htab
  obtain ⟨hx, hb, hr, hml, hown, hts, hlk, hnm⟩ := C
  obtain ⟨hK, hN⟩ := hKN
  have hown : s.vm.findClass RL = some m.cls := hown
  have hl : lv_has ls 5 [(0, .ref (ad 0)), (1, .int x1), (2, .int x2), (3, .ref oo)] := hl
  refine lv_aload_n hx hb dL_testKey_0 rfl (lv_at hl 3 rfl) ?_
  refine lv_iconst (v := nI 0) hx hb dL_testKey_1 (by decide) ?_
  refine lv_aload_n hx hb dL_testKey_2 rfl (lv_at hl 0 rfl) ?_
  refine lv_iload_n hx hb dL_testKey_3 rfl (lv_at hl 1 rfl) ?_
  refine lv_iload_n hx hb dL_testKey_4 rfl (lv_at hl 2 rfl) ?_
  have hAs : ∀ q : Nat, th_gA ad S.1 H0.size q → th_gA ad S.1 H0.size q := fun _ h9 => h9
  refine thw_callV hx hb hml hown hts ⟨hK, hN⟩ hl hS ⟨hX.1, hX.2.1⟩ ((th_gO hI.1) 0 _ rfl) rfl (rest := [.int (nI 0), .ref oo]) (c_X5_testKey l hl0 Y _ ad S Vx B dsx kvx ks wy wz hI x1 x2) ok_X5_testKey tw_3_34 dL_testKey_5 rfl rfl (Nat.le_of_ble_eq_true rfl) ⟨(Nat.le_of_ble_eq_true rfl), (Nat.le_of_ble_eq_true rfl)⟩ ⟨(Nat.le_of_ble_eq_true rfl), (Nat.le_of_ble_eq_true rfl)⟩ (fun _ h9 => Or.inl (hAs _ h9)) ?_ ?_
  · rintro E9 ce9 q9 H9 locs9 ⟨n9, hn9, hr9, hg9⟩ hsm9 hS hc9 hv9 hcl9
    have h39 : n9 < 1 := (List.getElem?_eq_some_iff.mp hn9).1
    obtain rfl : n9 = 0 := by omega
    obtain rfl : "java/lang/IllegalArgumentException" = E9 := Option.some.inj hn9
    refine thw_catch hown htab [] [] 0 17 20 15 rfl (fun _ h9 => absurd h9 List.not_mem_nil) (by decide) (by decide) (by decide) (hts _ tw_1_169) (th_caIA hX.1) hc9 hv9 hcl9 ?_
    refine lv_astore (lv' := [(4, .ref q9), (0, .ref (ad 0)), (1, .int x1), (2, .int x2), (3, .ref oo)]) hx hb dL_testKey_20 hl (by decide) rfl (fun ls hl => ?_)
    refine lv_iconst (v := nI 1) hx hb dL_testKey_22 (by decide) ?_
    refine thx_iret hx hb hr hlk hQ hS dL_testKey_23 (Nat.le_of_ble_eq_true rfl) (Nat.le_of_ble_eq_true rfl) ?_
    exact th_lpX hr9 (kq_testKey S x1 x2) hg9 (hO.kept (hsm9.2 _ hO.lt (fun z9 => hno (hAs _ z9))))
  · skip
    rintro v9 H locs9 ⟨x9, rfl, hr9, he9, hg9⟩ hsm9 hS
    have hO9 := hO.kept (hsm9.2 _ hO.lt (fun z9 => hno (hAs _ z9)))
    refine lv_if_eq (tgt := 15) hx hb dL_testKey_8 (by decide) (fun c_1 => ?_) (fun c_1 => ?_)
    · skip
      refine lv_lconst (v := 0) hx hb dL_testKey_15 (by decide) ?_
      refine th_lastS hx hb hK hO9 (Or.inr rfl) hS dL_testKey_16 (fun H2 locs hO8 hsm8 hS => ?_)
      refine lv_goto (tgt := 24) hx hb dL_testKey_17 (by decide) ?_
      refine lv_iconst (v := nI 0) hx hb dL_testKey_24 (by decide) ?_
      refine thx_iret hx hb hr hlk hQ hS dL_testKey_25 (Nat.le_of_ble_eq_true rfl) (Nat.le_of_ble_eq_true rfl) ?_
      exact th_lpT hr9 (show (0 : Int64) = _ from by rw [← he9, c_1]; rfl) (th_GWo hg9 hno hsm8) hO8
    refine lv_lconst (v := 1) hx hb dL_testKey_11 (by decide) ?_
    refine lv_goto (tgt := 16) hx hb dL_testKey_12 (by decide) ?_
    refine th_lastS hx hb hK hO9 (Or.inr rfl) hS dL_testKey_16 (fun H2 locs hO8 hsm8 hS => ?_)
    refine lv_goto (tgt := 24) hx hb dL_testKey_17 (by decide) ?_
    refine lv_iconst (v := nI 0) hx hb dL_testKey_24 (by decide) ?_
    refine thx_iret hx hb hr hlk hQ hS dL_testKey_25 (Nat.le_of_ble_eq_true rfl) (Nat.le_of_ble_eq_true rfl) ?_
    exact th_lpT hr9 (show (1 : Int64) = _ from by rw [((kb_testKey S x1 x2) hr9).resolve_left (fun z9 => c_1 (he9.trans z9))]; rfl) (th_GWo hg9 hno hsm8) hO8

theorem kq_put (S : th_S) (x1 x2 : Int32) : th_Kq S (sp_put S x1 x2) := by
  unfold sp_put
  repeat' (first | exact th_Kq0 | exact th_KqS | refine th_KqI ?_ ?_)
set_option maxRecDepth 100000 in
set_option maxHeartbeats 800000 in
theorem c_L_put (l : Launch) (hl0 : l.stackTraces = false) (Y : th_Y) (H0 : Heap) (ad : Nat → Nat) (S : th_S) (Vx B : Nat → Nat → Int32) (dsx kvx ks : Nat → Int32) (wy : Nat → Nat) (wz : Nat → Nat → Int32) (hI : th_I Y ad S Vx B dsx kvx ks wy wz H0) (oo : Nat) (f9 : Nat → Int64) (hO : va_at Y.1 vwCl (oo, .inl (Y.2 4, 1, .inr (.inl f9))) H0) (hno : ¬ th_gA ad S.1 H0.size oo) (x1 x2 : Int32) : th_MW l Y yL_put cL_put 5 [(0, 10, 13, 15)] (th_rm 12 8 400) [.ref (ad 0), .int x1, .int x2, .ref oo] H0 (fun q => th_gA ad S.1 H0.size q ∨ q = oo) (th_lp Y (ad 0) (th_gA ad S.1 H0.size) oo (sp_put S x1 x2)) := by
  refine th_MW.intro (by decide) (Nat.le_of_ble_eq_true rfl) ?_
  intro p e s m args below meth c ls Q hQ C hKN hl hS hX htab
  obtain ⟨hx, hb, hr, hml, hown, hts, hlk, hnm⟩ := C
  obtain ⟨hK, hN⟩ := hKN
  have hown : s.vm.findClass RL = some m.cls := hown
  have hl : lv_has ls 5 [(0, .ref (ad 0)), (1, .int x1), (2, .int x2), (3, .ref oo)] := hl
  refine lv_aload_n hx hb dL_put_0 rfl (lv_at hl 3 rfl) ?_
  refine lv_iconst (v := nI 0) hx hb dL_put_1 (by decide) ?_
  refine lv_aload_n hx hb dL_put_2 rfl (lv_at hl 0 rfl) ?_
  refine lv_iload_n hx hb dL_put_3 rfl (lv_at hl 1 rfl) ?_
  refine lv_iload_n hx hb dL_put_4 rfl (lv_at hl 2 rfl) ?_
  have hAs : ∀ q : Nat, th_gA ad S.1 H0.size q → th_gA ad S.1 H0.size q := fun _ h9 => h9
  refine thw_callV hx hb hml hown hts ⟨hK, hN⟩ hl hS ⟨hX.1, hX.2.1⟩ ((th_gO hI.1) 0 _ rfl) rfl (rest := [.int (nI 0), .ref oo]) (c_X5_put l hl0 Y _ ad S Vx B dsx kvx ks wy wz hI x1 x2) ok_X5_put tw_3_53 dL_put_5 rfl rfl (Nat.le_of_ble_eq_true rfl) ⟨(Nat.le_of_ble_eq_true rfl), (Nat.le_of_ble_eq_true rfl)⟩ ⟨(Nat.le_of_ble_eq_true rfl), (Nat.le_of_ble_eq_true rfl)⟩ (fun _ h9 => Or.inl (hAs _ h9)) ?_ ?_
  · rintro E9 ce9 q9 H9 locs9 ⟨n9, hn9, hr9, hg9⟩ hsm9 hS hc9 hv9 hcl9
    have h39 : n9 < 1 := (List.getElem?_eq_some_iff.mp hn9).1
    obtain rfl : n9 = 0 := by omega
    obtain rfl : "java/lang/IllegalArgumentException" = E9 := Option.some.inj hn9
    refine thw_catch hown htab [] [] 0 10 13 15 rfl (fun _ h9 => absurd h9 List.not_mem_nil) (by decide) (by decide) (by decide) (hts _ tw_1_169) (th_caIA hX.1) hc9 hv9 hcl9 ?_
    refine lv_astore (lv' := [(4, .ref q9), (0, .ref (ad 0)), (1, .int x1), (2, .int x2), (3, .ref oo)]) hx hb dL_put_13 hl (by decide) rfl (fun ls hl => ?_)
    refine lv_iconst (v := nI 1) hx hb dL_put_15 (by decide) ?_
    refine thx_iret hx hb hr hlk hQ hS dL_put_16 (Nat.le_of_ble_eq_true rfl) (Nat.le_of_ble_eq_true rfl) ?_
    exact th_lpX hr9 (kq_put S x1 x2) hg9 (hO.kept (hsm9.2 _ hO.lt (fun z9 => hno (hAs _ z9))))
  · skip
    rintro v9 H locs9 ⟨x9, rfl, hr9, he9, hg9⟩ hsm9 hS
    have hO9 := hO.kept (hsm9.2 _ hO.lt (fun z9 => hno (hAs _ z9)))
    refine lv_i2l hx hb dL_put_8 rfl ?_
    refine th_lastS hx hb hK hO9 (Or.inr rfl) hS dL_put_9 (fun H2 locs hO8 hsm8 hS => ?_)
    refine lv_goto (tgt := 17) hx hb dL_put_10 (by decide) ?_
    refine lv_iconst (v := nI 0) hx hb dL_put_17 (by decide) ?_
    refine thx_iret hx hb hr hlk hQ hS dL_put_18 (Nat.le_of_ble_eq_true rfl) (Nat.le_of_ble_eq_true rfl) ?_
    exact th_lpT hr9 (congrArg Int32.toInt64 he9) (th_GWo hg9 hno hsm8) hO8

theorem kq_remove (S : th_S) (x1 : Int32) : th_Kq S (sp_remove S x1) := by
  unfold sp_remove
  repeat' (first | exact th_Kq0 | exact th_KqS | refine th_KqI ?_ ?_)
set_option maxRecDepth 100000 in
set_option maxHeartbeats 800000 in
theorem c_L_remove (l : Launch) (hl0 : l.stackTraces = false) (Y : th_Y) (H0 : Heap) (ad : Nat → Nat) (S : th_S) (Vx B : Nat → Nat → Int32) (dsx kvx ks : Nat → Int32) (wy : Nat → Nat) (wz : Nat → Nat → Int32) (hI : th_I Y ad S Vx B dsx kvx ks wy wz H0) (oo : Nat) (f9 : Nat → Int64) (hO : va_at Y.1 vwCl (oo, .inl (Y.2 4, 1, .inr (.inl f9))) H0) (hno : ¬ th_gA ad S.1 H0.size oo) (x1 : Int32) : th_MW l Y yL_remove cL_remove 4 [(0, 9, 12, 15)] (th_rm 12 8 400) [.ref (ad 0), .int x1, .ref oo] H0 (fun q => th_gA ad S.1 H0.size q ∨ q = oo) (th_lp Y (ad 0) (th_gA ad S.1 H0.size) oo (sp_remove S x1)) := by
  refine th_MW.intro (by decide) (Nat.le_of_ble_eq_true rfl) ?_
  intro p e s m args below meth c ls Q hQ C hKN hl hS hX htab
  obtain ⟨hx, hb, hr, hml, hown, hts, hlk, hnm⟩ := C
  obtain ⟨hK, hN⟩ := hKN
  have hown : s.vm.findClass RL = some m.cls := hown
  have hl : lv_has ls 4 [(0, .ref (ad 0)), (1, .int x1), (2, .ref oo)] := hl
  refine lv_aload_n hx hb dL_remove_0 rfl (lv_at hl 2 rfl) ?_
  refine lv_iconst (v := nI 0) hx hb dL_remove_1 (by decide) ?_
  refine lv_aload_n hx hb dL_remove_2 rfl (lv_at hl 0 rfl) ?_
  refine lv_iload_n hx hb dL_remove_3 rfl (lv_at hl 1 rfl) ?_
  have hAs : ∀ q : Nat, th_gA ad S.1 H0.size q → th_gA ad S.1 H0.size q := fun _ h9 => h9
  refine thw_callV hx hb hml hown hts ⟨hK, hN⟩ hl hS ⟨hX.1, hX.2.1⟩ ((th_gO hI.1) 0 _ rfl) rfl (rest := [.int (nI 0), .ref oo]) (c_X5_remove l hl0 Y _ ad S Vx B dsx kvx ks wy wz hI x1) ok_X5_remove tw_3_66 dL_remove_4 rfl rfl (Nat.le_of_ble_eq_true rfl) ⟨(Nat.le_of_ble_eq_true rfl), (Nat.le_of_ble_eq_true rfl)⟩ ⟨(Nat.le_of_ble_eq_true rfl), (Nat.le_of_ble_eq_true rfl)⟩ (fun _ h9 => Or.inl (hAs _ h9)) ?_ ?_
  · rintro E9 ce9 q9 H9 locs9 ⟨n9, hn9, hr9, hg9⟩ hsm9 hS hc9 hv9 hcl9
    have h39 : n9 < 1 := (List.getElem?_eq_some_iff.mp hn9).1
    obtain rfl : n9 = 0 := by omega
    obtain rfl : "java/lang/IllegalArgumentException" = E9 := Option.some.inj hn9
    refine thw_catch hown htab [] [] 0 9 12 15 rfl (fun _ h9 => absurd h9 List.not_mem_nil) (by decide) (by decide) (by decide) (hts _ tw_1_169) (th_caIA hX.1) hc9 hv9 hcl9 ?_
    refine lv_astore_n (lv' := [(3, .ref q9), (0, .ref (ad 0)), (1, .int x1), (2, .ref oo)]) hx hb dL_remove_12 rfl hl (by decide) rfl (fun ls hl => ?_)
    refine lv_iconst (v := nI 1) hx hb dL_remove_13 (by decide) ?_
    refine thx_iret hx hb hr hlk hQ hS dL_remove_14 (Nat.le_of_ble_eq_true rfl) (Nat.le_of_ble_eq_true rfl) ?_
    exact th_lpX hr9 (kq_remove S x1) hg9 (hO.kept (hsm9.2 _ hO.lt (fun z9 => hno (hAs _ z9))))
  · skip
    rintro v9 H locs9 ⟨x9, rfl, hr9, he9, hg9⟩ hsm9 hS
    have hO9 := hO.kept (hsm9.2 _ hO.lt (fun z9 => hno (hAs _ z9)))
    refine lv_i2l hx hb dL_remove_7 rfl ?_
    refine th_lastS hx hb hK hO9 (Or.inr rfl) hS dL_remove_8 (fun H2 locs hO8 hsm8 hS => ?_)
    refine lv_goto (tgt := 15) hx hb dL_remove_9 (by decide) ?_
    refine lv_iconst (v := nI 0) hx hb dL_remove_15 (by decide) ?_
    refine thx_iret hx hb hr hlk hQ hS dL_remove_16 (Nat.le_of_ble_eq_true rfl) (Nat.le_of_ble_eq_true rfl) ?_
    exact th_lpT hr9 (congrArg Int32.toInt64 he9) (th_GWo hg9 hno hsm8) hO8

theorem kq_get (S : th_S) (x1 : Int32) : th_Kq S (sp_get S x1) := by
  unfold sp_get
  repeat' (first | exact th_Kq0 | exact th_KqS | refine th_KqI ?_ ?_)
set_option maxRecDepth 100000 in
set_option maxHeartbeats 800000 in
theorem c_L_get (l : Launch) (hl0 : l.stackTraces = false) (Y : th_Y) (H0 : Heap) (ad : Nat → Nat) (S : th_S) (Vx B : Nat → Nat → Int32) (dsx kvx ks : Nat → Int32) (wy : Nat → Nat) (wz : Nat → Nat → Int32) (hI : th_I Y ad S Vx B dsx kvx ks wy wz H0) (oo : Nat) (f9 : Nat → Int64) (hO : va_at Y.1 vwCl (oo, .inl (Y.2 4, 1, .inr (.inl f9))) H0) (hno : ¬ th_gA ad S.1 H0.size oo) (x1 : Int32) : th_MW l Y yL_get cL_get 4 [(0, 9, 12, 15)] (th_rm 12 8 400) [.ref (ad 0), .int x1, .ref oo] H0 (fun q => th_gA ad S.1 H0.size q ∨ q = oo) (th_lp Y (ad 0) (th_gA ad S.1 H0.size) oo (sp_get S x1)) := by
  refine th_MW.intro (by decide) (Nat.le_of_ble_eq_true rfl) ?_
  intro p e s m args below meth c ls Q hQ C hKN hl hS hX htab
  obtain ⟨hx, hb, hr, hml, hown, hts, hlk, hnm⟩ := C
  obtain ⟨hK, hN⟩ := hKN
  have hown : s.vm.findClass RL = some m.cls := hown
  have hl : lv_has ls 4 [(0, .ref (ad 0)), (1, .int x1), (2, .ref oo)] := hl
  refine lv_aload_n hx hb dL_get_0 rfl (lv_at hl 2 rfl) ?_
  refine lv_iconst (v := nI 0) hx hb dL_get_1 (by decide) ?_
  refine lv_aload_n hx hb dL_get_2 rfl (lv_at hl 0 rfl) ?_
  refine lv_iload_n hx hb dL_get_3 rfl (lv_at hl 1 rfl) ?_
  have hAs : ∀ q : Nat, th_gA ad S.1 H0.size q → th_gA ad S.1 H0.size q := fun _ h9 => h9
  refine thw_callV hx hb hml hown hts ⟨hK, hN⟩ hl hS ⟨hX.1, hX.2.1⟩ ((th_gO hI.1) 0 _ rfl) rfl (rest := [.int (nI 0), .ref oo]) (c_X5_get l hl0 Y _ ad S Vx B dsx kvx ks wy wz hI x1) ok_X5_get tw_3_73 dL_get_4 rfl rfl (Nat.le_of_ble_eq_true rfl) ⟨(Nat.le_of_ble_eq_true rfl), (Nat.le_of_ble_eq_true rfl)⟩ ⟨(Nat.le_of_ble_eq_true rfl), (Nat.le_of_ble_eq_true rfl)⟩ (fun _ h9 => Or.inl (hAs _ h9)) ?_ ?_
  · rintro E9 ce9 q9 H9 locs9 ⟨n9, hn9, hr9, hg9⟩ hsm9 hS hc9 hv9 hcl9
    have h39 : n9 < 1 := (List.getElem?_eq_some_iff.mp hn9).1
    obtain rfl : n9 = 0 := by omega
    obtain rfl : "java/lang/IllegalArgumentException" = E9 := Option.some.inj hn9
    refine thw_catch hown htab [] [] 0 9 12 15 rfl (fun _ h9 => absurd h9 List.not_mem_nil) (by decide) (by decide) (by decide) (hts _ tw_1_169) (th_caIA hX.1) hc9 hv9 hcl9 ?_
    refine lv_astore_n (lv' := [(3, .ref q9), (0, .ref (ad 0)), (1, .int x1), (2, .ref oo)]) hx hb dL_get_12 rfl hl (by decide) rfl (fun ls hl => ?_)
    refine lv_iconst (v := nI 1) hx hb dL_get_13 (by decide) ?_
    refine thx_iret hx hb hr hlk hQ hS dL_get_14 (Nat.le_of_ble_eq_true rfl) (Nat.le_of_ble_eq_true rfl) ?_
    exact th_lpX hr9 (kq_get S x1) hg9 (hO.kept (hsm9.2 _ hO.lt (fun z9 => hno (hAs _ z9))))
  · skip
    rintro v9 H locs9 ⟨x9, rfl, hr9, he9, hg9⟩ hsm9 hS
    have hO9 := hO.kept (hsm9.2 _ hO.lt (fun z9 => hno (hAs _ z9)))
    refine lv_i2l hx hb dL_get_7 rfl ?_
    refine th_lastS hx hb hK hO9 (Or.inr rfl) hS dL_get_8 (fun H2 locs hO8 hsm8 hS => ?_)
    refine lv_goto (tgt := 15) hx hb dL_get_9 (by decide) ?_
    refine lv_iconst (v := nI 0) hx hb dL_get_15 (by decide) ?_
    refine thx_iret hx hb hr hlk hQ hS dL_get_16 (Nat.le_of_ble_eq_true rfl) (Nat.le_of_ble_eq_true rfl) ?_
    exact th_lpT hr9 (congrArg Int32.toInt64 he9) (th_GWo hg9 hno hsm8) hO8

theorem kq_show (S : th_S) (x1 x2 : Int32) : th_Kq S (sp_show S x1 x2) := by
  unfold sp_show
  repeat' (first | exact th_Kq0 | exact th_KqS | refine th_KqI ?_ ?_)
theorem kb_show (S : th_S) (x1 x2 : Int32) : th_Kb (sp_show S x1 x2) := by
  unfold sp_show
  repeat' (first | exact th_Kbb | exact th_Kb1 | exact th_Kb0 | exact th_KbS | refine th_KbI (fun _ => ?_) ?_)
set_option maxRecDepth 100000 in
set_option maxHeartbeats 800000 in
theorem c_L_show (l : Launch) (hl0 : l.stackTraces = false) (Y : th_Y) (H0 : Heap) (ad : Nat → Nat) (S : th_S) (Vx B : Nat → Nat → Int32) (dsx kvx ks : Nat → Int32) (wy : Nat → Nat) (wz : Nat → Nat → Int32) (hI : th_I Y ad S Vx B dsx kvx ks wy wz H0) (oo : Nat) (f9 : Nat → Int64) (hO : va_at Y.1 vwCl (oo, .inl (Y.2 4, 1, .inr (.inl f9))) H0) (hno : ¬ th_gA ad S.1 H0.size oo) (x1 x2 : Int32) : th_MW l Y yL_show cL_show 5 [(0, 17, 20, 13)] (th_rm 12 8 400) [.ref (ad 0), .int x1, .int x2, .ref oo] H0 (fun q => th_gA ad S.1 H0.size q ∨ q = oo) (th_lp Y (ad 0) (th_gA ad S.1 H0.size) oo (sp_show S x1 x2)) := by
  refine th_MW.intro (by decide) (Nat.le_of_ble_eq_true rfl) ?_
  intro p e s m args below meth c ls Q hQ C hKN hl hS hX htab
  obtain ⟨hx, hb, hr, hml, hown, hts, hlk, hnm⟩ := C
  obtain ⟨hK, hN⟩ := hKN
  have hown : s.vm.findClass RL = some m.cls := hown
  have hl : lv_has ls 5 [(0, .ref (ad 0)), (1, .int x1), (2, .int x2), (3, .ref oo)] := hl
  refine lv_aload_n hx hb dL_show_0 rfl (lv_at hl 3 rfl) ?_
  refine lv_iconst (v := nI 0) hx hb dL_show_1 (by decide) ?_
  refine lv_aload_n hx hb dL_show_2 rfl (lv_at hl 0 rfl) ?_
  refine lv_iload_n hx hb dL_show_3 rfl (lv_at hl 1 rfl) ?_
  refine lv_iload_n hx hb dL_show_4 rfl (lv_at hl 2 rfl) ?_
  have hAs : ∀ q : Nat, th_gA ad S.1 H0.size q → th_gA ad S.1 H0.size q := fun _ h9 => h9
  refine thw_callV hx hb hml hown hts ⟨hK, hN⟩ hl hS ⟨hX.1, hX.2.1⟩ ((th_gO hI.1) 0 _ rfl) rfl (rest := [.int (nI 0), .ref oo]) (c_X5_show l hl0 Y _ ad S Vx B dsx kvx ks wy wz hI x1 x2) ok_X5_show tw_3_84 dL_show_5 rfl rfl (Nat.le_of_ble_eq_true rfl) ⟨(Nat.le_of_ble_eq_true rfl), (Nat.le_of_ble_eq_true rfl)⟩ ⟨(Nat.le_of_ble_eq_true rfl), (Nat.le_of_ble_eq_true rfl)⟩ (fun _ h9 => Or.inl (hAs _ h9)) ?_ ?_
  · rintro E9 ce9 q9 H9 locs9 ⟨n9, hn9, hr9, hg9⟩ hsm9 hS hc9 hv9 hcl9
    have h39 : n9 < 1 := (List.getElem?_eq_some_iff.mp hn9).1
    obtain rfl : n9 = 0 := by omega
    obtain rfl : "java/lang/IndexOutOfBoundsException" = E9 := Option.some.inj hn9
    refine thw_catch hown htab [] [] 0 17 20 13 rfl (fun _ h9 => absurd h9 List.not_mem_nil) (by decide) (by decide) (by decide) (hts _ tw_1_168) (th_caIO hX.1) hc9 hv9 hcl9 ?_
    refine lv_astore (lv' := [(4, .ref q9), (0, .ref (ad 0)), (1, .int x1), (2, .int x2), (3, .ref oo)]) hx hb dL_show_20 hl (by decide) rfl (fun ls hl => ?_)
    refine lv_iconst (v := nI 1) hx hb dL_show_22 (by decide) ?_
    refine thx_iret hx hb hr hlk hQ hS dL_show_23 (Nat.le_of_ble_eq_true rfl) (Nat.le_of_ble_eq_true rfl) ?_
    exact th_lpX hr9 (kq_show S x1 x2) hg9 (hO.kept (hsm9.2 _ hO.lt (fun z9 => hno (hAs _ z9))))
  · skip
    rintro v9 H locs9 ⟨x9, rfl, hr9, he9, hg9⟩ hsm9 hS
    have hO9 := hO.kept (hsm9.2 _ hO.lt (fun z9 => hno (hAs _ z9)))
    refine lv_if_eq (tgt := 15) hx hb dL_show_8 (by decide) (fun c_1 => ?_) (fun c_1 => ?_)
    · skip
      refine lv_lconst (v := 0) hx hb dL_show_15 (by decide) ?_
      refine th_lastS hx hb hK hO9 (Or.inr rfl) hS dL_show_16 (fun H2 locs hO8 hsm8 hS => ?_)
      refine lv_goto (tgt := 24) hx hb dL_show_17 (by decide) ?_
      refine lv_iconst (v := nI 0) hx hb dL_show_24 (by decide) ?_
      refine thx_iret hx hb hr hlk hQ hS dL_show_25 (Nat.le_of_ble_eq_true rfl) (Nat.le_of_ble_eq_true rfl) ?_
      exact th_lpT hr9 (show (0 : Int64) = _ from by rw [← he9, c_1]; rfl) (th_GWo hg9 hno hsm8) hO8
    refine lv_lconst (v := 1) hx hb dL_show_11 (by decide) ?_
    refine lv_goto (tgt := 16) hx hb dL_show_12 (by decide) ?_
    refine th_lastS hx hb hK hO9 (Or.inr rfl) hS dL_show_16 (fun H2 locs hO8 hsm8 hS => ?_)
    refine lv_goto (tgt := 24) hx hb dL_show_17 (by decide) ?_
    refine lv_iconst (v := nI 0) hx hb dL_show_24 (by decide) ?_
    refine thx_iret hx hb hr hlk hQ hS dL_show_25 (Nat.le_of_ble_eq_true rfl) (Nat.le_of_ble_eq_true rfl) ?_
    exact th_lpT hr9 (show (1 : Int64) = _ from by rw [((kb_show S x1 x2) hr9).resolve_left (fun z9 => c_1 (he9.trans z9))]; rfl) (th_GWo hg9 hno hsm8) hO8

theorem kq_gossip (S : th_S) (x1 x2 : Int32) : th_Kq S (sp_gossip S x1 x2) := by
  unfold sp_gossip
  repeat' (first | exact th_Kq0 | exact th_KqS | refine th_KqI ?_ ?_)
theorem kb_gossip (S : th_S) (x1 x2 : Int32) : th_Kb (sp_gossip S x1 x2) := by
  unfold sp_gossip
  repeat' (first | exact th_Kbb | exact th_Kb1 | exact th_Kb0 | exact th_KbS | refine th_KbI (fun _ => ?_) ?_)
set_option maxRecDepth 100000 in
set_option maxHeartbeats 800000 in
theorem c_L_gossip (l : Launch) (hl0 : l.stackTraces = false) (Y : th_Y) (H0 : Heap) (ad : Nat → Nat) (S : th_S) (Vx B : Nat → Nat → Int32) (dsx kvx ks : Nat → Int32) (wy : Nat → Nat) (wz : Nat → Nat → Int32) (hI : th_I Y ad S Vx B dsx kvx ks wy wz H0) (oo : Nat) (f9 : Nat → Int64) (hO : va_at Y.1 vwCl (oo, .inl (Y.2 4, 1, .inr (.inl f9))) H0) (hno : ¬ th_gA ad S.1 H0.size oo) (x1 x2 : Int32) : th_MW l Y yL_gossip cL_gossip 5 [(0, 17, 20, 13)] (th_rm 12 8 400) [.ref (ad 0), .int x1, .int x2, .ref oo] H0 (fun q => th_gA ad S.1 H0.size q ∨ q = oo) (th_lp Y (ad 0) (th_gA ad S.1 H0.size) oo (sp_gossip S x1 x2)) := by
  refine th_MW.intro (by decide) (Nat.le_of_ble_eq_true rfl) ?_
  intro p e s m args below meth c ls Q hQ C hKN hl hS hX htab
  obtain ⟨hx, hb, hr, hml, hown, hts, hlk, hnm⟩ := C
  obtain ⟨hK, hN⟩ := hKN
  have hown : s.vm.findClass RL = some m.cls := hown
  have hl : lv_has ls 5 [(0, .ref (ad 0)), (1, .int x1), (2, .int x2), (3, .ref oo)] := hl
  refine lv_aload_n hx hb dL_gossip_0 rfl (lv_at hl 3 rfl) ?_
  refine lv_iconst (v := nI 0) hx hb dL_gossip_1 (by decide) ?_
  refine lv_aload_n hx hb dL_gossip_2 rfl (lv_at hl 0 rfl) ?_
  refine lv_iload_n hx hb dL_gossip_3 rfl (lv_at hl 1 rfl) ?_
  refine lv_iload_n hx hb dL_gossip_4 rfl (lv_at hl 2 rfl) ?_
  have hAs : ∀ q : Nat, th_gA ad S.1 H0.size q → th_gA ad S.1 H0.size q := fun _ h9 => h9
  refine thw_callV hx hb hml hown hts ⟨hK, hN⟩ hl hS ⟨hX.1, hX.2.1⟩ ((th_gO hI.1) 0 _ rfl) rfl (rest := [.int (nI 0), .ref oo]) (c_X5_gossip l hl0 Y _ ad S Vx B dsx kvx ks wy wz hI x1 x2) ok_X5_gossip tw_3_106 dL_gossip_5 rfl rfl (Nat.le_of_ble_eq_true rfl) ⟨(Nat.le_of_ble_eq_true rfl), (Nat.le_of_ble_eq_true rfl)⟩ ⟨(Nat.le_of_ble_eq_true rfl), (Nat.le_of_ble_eq_true rfl)⟩ (fun _ h9 => Or.inl (hAs _ h9)) ?_ ?_
  · rintro E9 ce9 q9 H9 locs9 ⟨n9, hn9, hr9, hg9⟩ hsm9 hS hc9 hv9 hcl9
    have h39 : n9 < 1 := (List.getElem?_eq_some_iff.mp hn9).1
    obtain rfl : n9 = 0 := by omega
    obtain rfl : "java/lang/IndexOutOfBoundsException" = E9 := Option.some.inj hn9
    refine thw_catch hown htab [] [] 0 17 20 13 rfl (fun _ h9 => absurd h9 List.not_mem_nil) (by decide) (by decide) (by decide) (hts _ tw_1_168) (th_caIO hX.1) hc9 hv9 hcl9 ?_
    refine lv_astore (lv' := [(4, .ref q9), (0, .ref (ad 0)), (1, .int x1), (2, .int x2), (3, .ref oo)]) hx hb dL_gossip_20 hl (by decide) rfl (fun ls hl => ?_)
    refine lv_iconst (v := nI 1) hx hb dL_gossip_22 (by decide) ?_
    refine thx_iret hx hb hr hlk hQ hS dL_gossip_23 (Nat.le_of_ble_eq_true rfl) (Nat.le_of_ble_eq_true rfl) ?_
    exact th_lpX hr9 (kq_gossip S x1 x2) hg9 (hO.kept (hsm9.2 _ hO.lt (fun z9 => hno (hAs _ z9))))
  · skip
    rintro v9 H locs9 ⟨x9, rfl, hr9, he9, hg9⟩ hsm9 hS
    have hO9 := hO.kept (hsm9.2 _ hO.lt (fun z9 => hno (hAs _ z9)))
    refine lv_if_eq (tgt := 15) hx hb dL_gossip_8 (by decide) (fun c_1 => ?_) (fun c_1 => ?_)
    · skip
      refine lv_lconst (v := 0) hx hb dL_gossip_15 (by decide) ?_
      refine th_lastS hx hb hK hO9 (Or.inr rfl) hS dL_gossip_16 (fun H2 locs hO8 hsm8 hS => ?_)
      refine lv_goto (tgt := 24) hx hb dL_gossip_17 (by decide) ?_
      refine lv_iconst (v := nI 0) hx hb dL_gossip_24 (by decide) ?_
      refine thx_iret hx hb hr hlk hQ hS dL_gossip_25 (Nat.le_of_ble_eq_true rfl) (Nat.le_of_ble_eq_true rfl) ?_
      exact th_lpT hr9 (show (0 : Int64) = _ from by rw [← he9, c_1]; rfl) (th_GWo hg9 hno hsm8) hO8
    refine lv_lconst (v := 1) hx hb dL_gossip_11 (by decide) ?_
    refine lv_goto (tgt := 16) hx hb dL_gossip_12 (by decide) ?_
    refine th_lastS hx hb hK hO9 (Or.inr rfl) hS dL_gossip_16 (fun H2 locs hO8 hsm8 hS => ?_)
    refine lv_goto (tgt := 24) hx hb dL_gossip_17 (by decide) ?_
    refine lv_iconst (v := nI 0) hx hb dL_gossip_24 (by decide) ?_
    refine thx_iret hx hb hr hlk hQ hS dL_gossip_25 (Nat.le_of_ble_eq_true rfl) (Nat.le_of_ble_eq_true rfl) ?_
    exact th_lpT hr9 (show (1 : Int64) = _ from by rw [((kb_gossip S x1 x2) hr9).resolve_left (fun z9 => c_1 (he9.trans z9))]; rfl) (th_GWo hg9 hno hsm8) hO8

theorem kq_follow (S : th_S) (x1 x2 : Int32) : th_Kq S (sp_follow S x1 x2) := by
  unfold sp_follow
  repeat' (first | exact th_Kq0 | exact th_KqS | refine th_KqI ?_ ?_)
set_option maxRecDepth 100000 in
set_option maxHeartbeats 800000 in
theorem c_L_follow (l : Launch) (hl0 : l.stackTraces = false) (Y : th_Y) (H0 : Heap) (ad : Nat → Nat) (S : th_S) (Vx B : Nat → Nat → Int32) (dsx kvx ks : Nat → Int32) (wy : Nat → Nat) (wz : Nat → Nat → Int32) (hI : th_I Y ad S Vx B dsx kvx ks wy wz H0) (x1 x2 : Int32) : th_MW l Y yL_follow cL_follow 4 [(0, 6, 9, 13), (0, 6, 12, 15)] (th_rm 12 8 400) [.ref (ad 0), .int x1, .int x2] H0 (th_gA ad S.1 H0.size) (th_lq Y (ad 0) (th_gA ad S.1 H0.size) (sp_follow S x1 x2)) := by
  refine th_MW.intro (by decide) (Nat.le_of_ble_eq_true rfl) ?_
  intro p e s m args below meth c ls Q hQ C hKN hl hS hX htab
  obtain ⟨hx, hb, hr, hml, hown, hts, hlk, hnm⟩ := C
  obtain ⟨hK, hN⟩ := hKN
  have hown : s.vm.findClass RL = some m.cls := hown
  have hl : lv_has ls 4 [(0, .ref (ad 0)), (1, .int x1), (2, .int x2)] := hl
  refine lv_aload_n hx hb dL_follow_0 rfl (lv_at hl 0 rfl) ?_
  refine lv_iload_n hx hb dL_follow_1 rfl (lv_at hl 1 rfl) ?_
  refine lv_iload_n hx hb dL_follow_2 rfl (lv_at hl 2 rfl) ?_
  have hAs : ∀ q : Nat, th_gA ad S.1 H0.size q → th_gA ad S.1 H0.size q := fun _ h9 => h9
  refine thw_callV hx hb hml hown hts ⟨hK, hN⟩ hl hS ⟨hX.1, hX.2.1⟩ ((th_gO hI.1) 0 _ rfl) rfl (rest := []) (c_X5_follow l hl0 Y _ ad S Vx B dsx kvx ks wy wz hI x1 x2) ok_X5_follow tw_3_117 dL_follow_3 rfl rfl (Nat.le_of_ble_eq_true rfl) ⟨(Nat.le_of_ble_eq_true rfl), (Nat.le_of_ble_eq_true rfl)⟩ ⟨(Nat.le_of_ble_eq_true rfl), (Nat.le_of_ble_eq_true rfl)⟩ (hAs) ?_ ?_
  · rintro E9 ce9 q9 H9 locs9 ⟨n9, hn9, hr9, hg9⟩ hsm9 hS hc9 hv9 hcl9
    have h39 : n9 < 2 := (List.getElem?_eq_some_iff.mp hn9).1
    rcases (show n9 = 0 ∨ n9 = 1 by omega) with rfl | rfl
    · skip
      obtain rfl : "java/lang/IndexOutOfBoundsException" = E9 := Option.some.inj hn9
      refine thw_catch hown htab [] [(0, 6, 12, 15)] 0 6 9 13 rfl (fun _ h9 => absurd h9 List.not_mem_nil) (by decide) (by decide) (by decide) (hts _ tw_1_168) (th_caIO hX.1) hc9 hv9 hcl9 ?_
      refine lv_astore_n (lv' := [(3, .ref q9), (0, .ref (ad 0)), (1, .int x1), (2, .int x2)]) hx hb dL_follow_9 rfl hl (by decide) rfl (fun ls hl => ?_)
      refine lv_iconst (v := nI 1) hx hb dL_follow_10 (by decide) ?_
      refine thx_iret hx hb hr hlk hQ hS dL_follow_11 (Nat.le_of_ble_eq_true rfl) (Nat.le_of_ble_eq_true rfl) ?_
      exact th_lqX hr9 (kq_follow S x1 x2) hg9
    · skip
      obtain rfl : "java/lang/IllegalArgumentException" = E9 := Option.some.inj hn9
      refine thw_catch hown htab [(0, 6, 9, 13)] [] 0 6 12 15 rfl (List.forall_mem_cons.mpr ⟨⟨by decide, _, hts _ tw_1_168, hX.2.2.1⟩, fun _ h9 => absurd h9 List.not_mem_nil⟩) (by decide) (by decide) (by decide) (hts _ tw_1_169) (th_caIA hX.1) hc9 hv9 hcl9 ?_
      refine lv_astore_n (lv' := [(3, .ref q9), (0, .ref (ad 0)), (1, .int x1), (2, .int x2)]) hx hb dL_follow_12 rfl hl (by decide) rfl (fun ls hl => ?_)
      refine lv_iconst (v := nI 2) hx hb dL_follow_13 (by decide) ?_
      refine thx_iret hx hb hr hlk hQ hS dL_follow_14 (Nat.le_of_ble_eq_true rfl) (Nat.le_of_ble_eq_true rfl) ?_
      exact th_lqX hr9 (kq_follow S x1 x2) hg9
  · skip
    rintro v9 H locs9 ⟨rfl, hr9, hg9⟩ hsm9 hS
    refine lv_goto (tgt := 15) hx hb dL_follow_6 (by decide) ?_
    refine lv_iconst (v := nI 0) hx hb dL_follow_15 (by decide) ?_
    refine thx_iret hx hb hr hlk hQ hS dL_follow_16 (Nat.le_of_ble_eq_true rfl) (Nat.le_of_ble_eq_true rfl) ?_
    exact ⟨by rw [hr9], hg9⟩

theorem kq_isAlarmed (S : th_S) (x1 : Int32) : th_Kq S (sp_isAlarmed S x1) := by
  unfold sp_isAlarmed
  repeat' (first | exact th_Kq0 | exact th_KqS | refine th_KqI ?_ ?_)
theorem kb_isAlarmed {S : th_S} (h : ∀ w, w < 4 → th_wI S w) (x1 : Int32) : th_Kb (sp_isAlarmed S x1) := by
  unfold sp_isAlarmed
  refine th_KbI (fun h9 _ => ?_) th_KbS
  obtain ⟨j, -, hj, rfl⟩ := h9
  rw [th_ixN (by omega)]
  exact (h j hj).2
set_option maxRecDepth 100000 in
set_option maxHeartbeats 800000 in
theorem c_L_isAlarmed (l : Launch) (hl0 : l.stackTraces = false) (Y : th_Y) (H0 : Heap) (ad : Nat → Nat) (S : th_S) (Vx B : Nat → Nat → Int32) (dsx kvx ks : Nat → Int32) (wy : Nat → Nat) (wz : Nat → Nat → Int32) (hI : th_I Y ad S Vx B dsx kvx ks wy wz H0) (oo : Nat) (f9 : Nat → Int64) (hO : va_at Y.1 vwCl (oo, .inl (Y.2 4, 1, .inr (.inl f9))) H0) (hno : ¬ th_gA ad S.1 H0.size oo) (x1 : Int32) : th_MW l Y yL_isAlarmed cL_isAlarmed 4 [(0, 16, 19, 13)] (th_rm 12 8 400) [.ref (ad 0), .int x1, .ref oo] H0 (fun q => th_gA ad S.1 H0.size q ∨ q = oo) (th_lp Y (ad 0) (th_gA ad S.1 H0.size) oo (sp_isAlarmed S x1)) := by
  refine th_MW.intro (by decide) (Nat.le_of_ble_eq_true rfl) ?_
  intro p e s m args below meth c ls Q hQ C hKN hl hS hX htab
  obtain ⟨hx, hb, hr, hml, hown, hts, hlk, hnm⟩ := C
  obtain ⟨hK, hN⟩ := hKN
  have hown : s.vm.findClass RL = some m.cls := hown
  have hl : lv_has ls 4 [(0, .ref (ad 0)), (1, .int x1), (2, .ref oo)] := hl
  refine lv_aload_n hx hb dL_isAlarmed_0 rfl (lv_at hl 2 rfl) ?_
  refine lv_iconst (v := nI 0) hx hb dL_isAlarmed_1 (by decide) ?_
  refine lv_aload_n hx hb dL_isAlarmed_2 rfl (lv_at hl 0 rfl) ?_
  refine lv_iload_n hx hb dL_isAlarmed_3 rfl (lv_at hl 1 rfl) ?_
  have hAs : ∀ q : Nat, th_gA ad S.1 H0.size q → th_gA ad S.1 H0.size q := fun _ h9 => h9
  refine thw_callV hx hb hml hown hts ⟨hK, hN⟩ hl hS ⟨hX.1, hX.2.1⟩ ((th_gO hI.1) 0 _ rfl) rfl (rest := [.int (nI 0), .ref oo]) (c_X5_isAlarmed l hl0 Y _ ad S Vx B dsx kvx ks wy wz hI x1) ok_X5_isAlarmed tw_3_124 dL_isAlarmed_4 rfl rfl (Nat.le_of_ble_eq_true rfl) ⟨(Nat.le_of_ble_eq_true rfl), (Nat.le_of_ble_eq_true rfl)⟩ ⟨(Nat.le_of_ble_eq_true rfl), (Nat.le_of_ble_eq_true rfl)⟩ (fun _ h9 => Or.inl (hAs _ h9)) ?_ ?_
  · rintro E9 ce9 q9 H9 locs9 ⟨n9, hn9, hr9, hg9⟩ hsm9 hS hc9 hv9 hcl9
    have h39 : n9 < 1 := (List.getElem?_eq_some_iff.mp hn9).1
    obtain rfl : n9 = 0 := by omega
    obtain rfl : "java/lang/IndexOutOfBoundsException" = E9 := Option.some.inj hn9
    refine thw_catch hown htab [] [] 0 16 19 13 rfl (fun _ h9 => absurd h9 List.not_mem_nil) (by decide) (by decide) (by decide) (hts _ tw_1_168) (th_caIO hX.1) hc9 hv9 hcl9 ?_
    refine lv_astore_n (lv' := [(3, .ref q9), (0, .ref (ad 0)), (1, .int x1), (2, .ref oo)]) hx hb dL_isAlarmed_19 rfl hl (by decide) rfl (fun ls hl => ?_)
    refine lv_iconst (v := nI 1) hx hb dL_isAlarmed_20 (by decide) ?_
    refine thx_iret hx hb hr hlk hQ hS dL_isAlarmed_21 (Nat.le_of_ble_eq_true rfl) (Nat.le_of_ble_eq_true rfl) ?_
    exact th_lpX hr9 (kq_isAlarmed S x1) hg9 (hO.kept (hsm9.2 _ hO.lt (fun z9 => hno (hAs _ z9))))
  · skip
    rintro v9 H locs9 ⟨x9, rfl, hr9, he9, hg9⟩ hsm9 hS
    have hO9 := hO.kept (hsm9.2 _ hO.lt (fun z9 => hno (hAs _ z9)))
    refine lv_if_eq (tgt := 14) hx hb dL_isAlarmed_7 (by decide) (fun c_1 => ?_) (fun c_1 => ?_)
    · skip
      refine lv_lconst (v := 0) hx hb dL_isAlarmed_14 (by decide) ?_
      refine th_lastS hx hb hK hO9 (Or.inr rfl) hS dL_isAlarmed_15 (fun H2 locs hO8 hsm8 hS => ?_)
      refine lv_goto (tgt := 22) hx hb dL_isAlarmed_16 (by decide) ?_
      refine lv_iconst (v := nI 0) hx hb dL_isAlarmed_22 (by decide) ?_
      refine thx_iret hx hb hr hlk hQ hS dL_isAlarmed_23 (Nat.le_of_ble_eq_true rfl) (Nat.le_of_ble_eq_true rfl) ?_
      exact th_lpT hr9 (show (0 : Int64) = _ from by rw [← he9, c_1]; rfl) (th_GWo hg9 hno hsm8) hO8
    refine lv_lconst (v := 1) hx hb dL_isAlarmed_10 (by decide) ?_
    refine lv_goto (tgt := 15) hx hb dL_isAlarmed_11 (by decide) ?_
    refine th_lastS hx hb hK hO9 (Or.inr rfl) hS dL_isAlarmed_15 (fun H2 locs hO8 hsm8 hS => ?_)
    refine lv_goto (tgt := 22) hx hb dL_isAlarmed_16 (by decide) ?_
    refine lv_iconst (v := nI 0) hx hb dL_isAlarmed_22 (by decide) ?_
    refine thx_iret hx hb hr hlk hQ hS dL_isAlarmed_23 (Nat.le_of_ble_eq_true rfl) (Nat.le_of_ble_eq_true rfl) ?_
    exact th_lpT hr9 (show (1 : Int64) = _ from by rw [((kb_isAlarmed hI.2.2.2.2.2.2.2.2 x1) hr9).resolve_left (fun z9 => c_1 (he9.trans z9))]; rfl) (th_GWo hg9 hno hsm8) hO8

theorem kq_keptSize (S : th_S) (x1 : Int32) : th_Kq S (sp_keptSize S x1) := by
  unfold sp_keptSize
  repeat' (first | exact th_Kq0 | exact th_KqS | refine th_KqI ?_ ?_)
set_option maxRecDepth 100000 in
set_option maxHeartbeats 800000 in
theorem c_L_keptSize (l : Launch) (hl0 : l.stackTraces = false) (Y : th_Y) (H0 : Heap) (ad : Nat → Nat) (S : th_S) (Vx B : Nat → Nat → Int32) (dsx kvx ks : Nat → Int32) (wy : Nat → Nat) (wz : Nat → Nat → Int32) (hI : th_I Y ad S Vx B dsx kvx ks wy wz H0) (oo : Nat) (f9 : Nat → Int64) (hO : va_at Y.1 vwCl (oo, .inl (Y.2 4, 1, .inr (.inl f9))) H0) (hno : ¬ th_gA ad S.1 H0.size oo) (x1 : Int32) : th_MW l Y yL_keptSize cL_keptSize 4 [(0, 9, 12, 13)] (th_rm 12 8 400) [.ref (ad 0), .int x1, .ref oo] H0 (fun q => th_gA ad S.1 H0.size q ∨ q = oo) (th_lp Y (ad 0) (th_gA ad S.1 H0.size) oo (sp_keptSize S x1)) := by
  refine th_MW.intro (by decide) (Nat.le_of_ble_eq_true rfl) ?_
  intro p e s m args below meth c ls Q hQ C hKN hl hS hX htab
  obtain ⟨hx, hb, hr, hml, hown, hts, hlk, hnm⟩ := C
  obtain ⟨hK, hN⟩ := hKN
  have hown : s.vm.findClass RL = some m.cls := hown
  have hl : lv_has ls 4 [(0, .ref (ad 0)), (1, .int x1), (2, .ref oo)] := hl
  refine lv_aload_n hx hb dL_keptSize_0 rfl (lv_at hl 2 rfl) ?_
  refine lv_iconst (v := nI 0) hx hb dL_keptSize_1 (by decide) ?_
  refine lv_aload_n hx hb dL_keptSize_2 rfl (lv_at hl 0 rfl) ?_
  refine lv_iload_n hx hb dL_keptSize_3 rfl (lv_at hl 1 rfl) ?_
  have hAs : ∀ q : Nat, th_gA ad S.1 H0.size q → th_gA ad S.1 H0.size q := fun _ h9 => h9
  refine thw_callV hx hb hml hown hts ⟨hK, hN⟩ hl hS ⟨hX.1, hX.2.1⟩ ((th_gO hI.1) 0 _ rfl) rfl (rest := [.int (nI 0), .ref oo]) (c_X5_keptSize l hl0 Y _ ad S Vx B dsx kvx ks wy wz hI x1) ok_X5_keptSize tw_3_131 dL_keptSize_4 rfl rfl (Nat.le_of_ble_eq_true rfl) ⟨(Nat.le_of_ble_eq_true rfl), (Nat.le_of_ble_eq_true rfl)⟩ ⟨(Nat.le_of_ble_eq_true rfl), (Nat.le_of_ble_eq_true rfl)⟩ (fun _ h9 => Or.inl (hAs _ h9)) ?_ ?_
  · rintro E9 ce9 q9 H9 locs9 ⟨n9, hn9, hr9, hg9⟩ hsm9 hS hc9 hv9 hcl9
    have h39 : n9 < 1 := (List.getElem?_eq_some_iff.mp hn9).1
    obtain rfl : n9 = 0 := by omega
    obtain rfl : "java/lang/IndexOutOfBoundsException" = E9 := Option.some.inj hn9
    refine thw_catch hown htab [] [] 0 9 12 13 rfl (fun _ h9 => absurd h9 List.not_mem_nil) (by decide) (by decide) (by decide) (hts _ tw_1_168) (th_caIO hX.1) hc9 hv9 hcl9 ?_
    refine lv_astore_n (lv' := [(3, .ref q9), (0, .ref (ad 0)), (1, .int x1), (2, .ref oo)]) hx hb dL_keptSize_12 rfl hl (by decide) rfl (fun ls hl => ?_)
    refine lv_iconst (v := nI 1) hx hb dL_keptSize_13 (by decide) ?_
    refine thx_iret hx hb hr hlk hQ hS dL_keptSize_14 (Nat.le_of_ble_eq_true rfl) (Nat.le_of_ble_eq_true rfl) ?_
    exact th_lpX hr9 (kq_keptSize S x1) hg9 (hO.kept (hsm9.2 _ hO.lt (fun z9 => hno (hAs _ z9))))
  · skip
    rintro v9 H locs9 ⟨x9, rfl, hr9, he9, hg9⟩ hsm9 hS
    have hO9 := hO.kept (hsm9.2 _ hO.lt (fun z9 => hno (hAs _ z9)))
    refine lv_i2l hx hb dL_keptSize_7 rfl ?_
    refine th_lastS hx hb hK hO9 (Or.inr rfl) hS dL_keptSize_8 (fun H2 locs hO8 hsm8 hS => ?_)
    refine lv_goto (tgt := 15) hx hb dL_keptSize_9 (by decide) ?_
    refine lv_iconst (v := nI 0) hx hb dL_keptSize_15 (by decide) ?_
    refine thx_iret hx hb hr hlk hQ hS dL_keptSize_16 (Nat.le_of_ble_eq_true rfl) (Nat.le_of_ble_eq_true rfl) ?_
    exact th_lpT hr9 (congrArg Int32.toInt64 he9) (th_GWo hg9 hno hsm8) hO8

theorem kq_keptRoot (S : th_S) (x1 : Int32) : th_Kq S (sp_keptRoot S x1) := by
  unfold sp_keptRoot
  repeat' (first | exact th_Kq0 | exact th_KqS | refine th_KqI ?_ ?_)
set_option maxRecDepth 100000 in
set_option maxHeartbeats 800000 in
theorem c_L_keptRoot (l : Launch) (hl0 : l.stackTraces = false) (Y : th_Y) (H0 : Heap) (ad : Nat → Nat) (S : th_S) (Vx B : Nat → Nat → Int32) (dsx kvx ks : Nat → Int32) (wy : Nat → Nat) (wz : Nat → Nat → Int32) (hI : th_I Y ad S Vx B dsx kvx ks wy wz H0) (oo : Nat) (f9 : Nat → Int64) (hO : va_at Y.1 vwCl (oo, .inl (Y.2 4, 1, .inr (.inl f9))) H0) (hno : ¬ th_gA ad S.1 H0.size oo) (x1 : Int32) : th_MW l Y yL_keptRoot cL_keptRoot 4 [(0, 9, 12, 13)] (th_rm 12 8 400) [.ref (ad 0), .int x1, .ref oo] H0 (fun q => th_gA ad S.1 H0.size q ∨ q = oo) (th_lp Y (ad 0) (th_gA ad S.1 H0.size) oo (sp_keptRoot S x1)) := by
  refine th_MW.intro (by decide) (Nat.le_of_ble_eq_true rfl) ?_
  intro p e s m args below meth c ls Q hQ C hKN hl hS hX htab
  obtain ⟨hx, hb, hr, hml, hown, hts, hlk, hnm⟩ := C
  obtain ⟨hK, hN⟩ := hKN
  have hown : s.vm.findClass RL = some m.cls := hown
  have hl : lv_has ls 4 [(0, .ref (ad 0)), (1, .int x1), (2, .ref oo)] := hl
  refine lv_aload_n hx hb dL_keptRoot_0 rfl (lv_at hl 2 rfl) ?_
  refine lv_iconst (v := nI 0) hx hb dL_keptRoot_1 (by decide) ?_
  refine lv_aload_n hx hb dL_keptRoot_2 rfl (lv_at hl 0 rfl) ?_
  refine lv_iload_n hx hb dL_keptRoot_3 rfl (lv_at hl 1 rfl) ?_
  have hAs : ∀ q : Nat, th_gA ad S.1 H0.size q → th_gA ad S.1 H0.size q := fun _ h9 => h9
  refine thw_callV hx hb hml hown hts ⟨hK, hN⟩ hl hS ⟨hX.1, hX.2.1⟩ ((th_gO hI.1) 0 _ rfl) rfl (rest := [.int (nI 0), .ref oo]) (c_X5_keptRoot l hl0 Y _ ad S Vx B dsx kvx ks wy wz hI x1) ok_X5_keptRoot tw_3_138 dL_keptRoot_4 rfl rfl (Nat.le_of_ble_eq_true rfl) ⟨(Nat.le_of_ble_eq_true rfl), (Nat.le_of_ble_eq_true rfl)⟩ ⟨(Nat.le_of_ble_eq_true rfl), (Nat.le_of_ble_eq_true rfl)⟩ (fun _ h9 => Or.inl (hAs _ h9)) ?_ ?_
  · rintro E9 ce9 q9 H9 locs9 ⟨n9, hn9, hr9, hg9⟩ hsm9 hS hc9 hv9 hcl9
    have h39 : n9 < 1 := (List.getElem?_eq_some_iff.mp hn9).1
    obtain rfl : n9 = 0 := by omega
    obtain rfl : "java/lang/IndexOutOfBoundsException" = E9 := Option.some.inj hn9
    refine thw_catch hown htab [] [] 0 9 12 13 rfl (fun _ h9 => absurd h9 List.not_mem_nil) (by decide) (by decide) (by decide) (hts _ tw_1_168) (th_caIO hX.1) hc9 hv9 hcl9 ?_
    refine lv_astore_n (lv' := [(3, .ref q9), (0, .ref (ad 0)), (1, .int x1), (2, .ref oo)]) hx hb dL_keptRoot_12 rfl hl (by decide) rfl (fun ls hl => ?_)
    refine lv_iconst (v := nI 1) hx hb dL_keptRoot_13 (by decide) ?_
    refine thx_iret hx hb hr hlk hQ hS dL_keptRoot_14 (Nat.le_of_ble_eq_true rfl) (Nat.le_of_ble_eq_true rfl) ?_
    exact th_lpX hr9 (kq_keptRoot S x1) hg9 (hO.kept (hsm9.2 _ hO.lt (fun z9 => hno (hAs _ z9))))
  · skip
    rintro v9 H locs9 ⟨x9, rfl, hr9, he9, hg9⟩ hsm9 hS
    have hO9 := hO.kept (hsm9.2 _ hO.lt (fun z9 => hno (hAs _ z9)))
    refine lv_i2l hx hb dL_keptRoot_7 rfl ?_
    refine th_lastS hx hb hK hO9 (Or.inr rfl) hS dL_keptRoot_8 (fun H2 locs hO8 hsm8 hS => ?_)
    refine lv_goto (tgt := 15) hx hb dL_keptRoot_9 (by decide) ?_
    refine lv_iconst (v := nI 0) hx hb dL_keptRoot_15 (by decide) ?_
    refine thx_iret hx hb hr hlk hQ hS dL_keptRoot_16 (Nat.le_of_ble_eq_true rfl) (Nat.le_of_ble_eq_true rfl) ?_
    exact th_lpT hr9 (congrArg Int32.toInt64 he9) (th_GWo hg9 hno hsm8) hO8

theorem kq_counted (S : th_S) (x1 : Int32) : th_Kq S (sp_counted S x1) := by
  unfold sp_counted
  repeat' (first | exact th_Kq0 | exact th_KqS | refine th_KqI ?_ ?_)
set_option maxRecDepth 100000 in
set_option maxHeartbeats 800000 in
theorem c_L_counted (l : Launch) (hl0 : l.stackTraces = false) (Y : th_Y) (H0 : Heap) (ad : Nat → Nat) (S : th_S) (Vx B : Nat → Nat → Int32) (dsx kvx ks : Nat → Int32) (wy : Nat → Nat) (wz : Nat → Nat → Int32) (hI : th_I Y ad S Vx B dsx kvx ks wy wz H0) (oo : Nat) (f9 : Nat → Int64) (hO : va_at Y.1 vwCl (oo, .inl (Y.2 4, 1, .inr (.inl f9))) H0) (hno : ¬ th_gA ad S.1 H0.size oo) (x1 : Int32) : th_MW l Y yL_counted cL_counted 4 [(0, 9, 12, 13)] (th_rm 12 8 400) [.ref (ad 0), .int x1, .ref oo] H0 (fun q => th_gA ad S.1 H0.size q ∨ q = oo) (th_lp Y (ad 0) (th_gA ad S.1 H0.size) oo (sp_counted S x1)) := by
  refine th_MW.intro (by decide) (Nat.le_of_ble_eq_true rfl) ?_
  intro p e s m args below meth c ls Q hQ C hKN hl hS hX htab
  obtain ⟨hx, hb, hr, hml, hown, hts, hlk, hnm⟩ := C
  obtain ⟨hK, hN⟩ := hKN
  have hown : s.vm.findClass RL = some m.cls := hown
  have hl : lv_has ls 4 [(0, .ref (ad 0)), (1, .int x1), (2, .ref oo)] := hl
  refine lv_aload_n hx hb dL_counted_0 rfl (lv_at hl 2 rfl) ?_
  refine lv_iconst (v := nI 0) hx hb dL_counted_1 (by decide) ?_
  refine lv_aload_n hx hb dL_counted_2 rfl (lv_at hl 0 rfl) ?_
  refine lv_iload_n hx hb dL_counted_3 rfl (lv_at hl 1 rfl) ?_
  have hAs : ∀ q : Nat, th_gA ad S.1 H0.size q → th_gA ad S.1 H0.size q := fun _ h9 => h9
  refine thw_callV hx hb hml hown hts ⟨hK, hN⟩ hl hS ⟨hX.1, hX.2.1⟩ ((th_gO hI.1) 0 _ rfl) rfl (rest := [.int (nI 0), .ref oo]) (c_X5_counted l hl0 Y _ ad S Vx B dsx kvx ks wy wz hI x1) ok_X5_counted tw_3_145 dL_counted_4 rfl rfl (Nat.le_of_ble_eq_true rfl) ⟨(Nat.le_of_ble_eq_true rfl), (Nat.le_of_ble_eq_true rfl)⟩ ⟨(Nat.le_of_ble_eq_true rfl), (Nat.le_of_ble_eq_true rfl)⟩ (fun _ h9 => Or.inl (hAs _ h9)) ?_ ?_
  · rintro E9 ce9 q9 H9 locs9 ⟨n9, hn9, hr9, hg9⟩ hsm9 hS hc9 hv9 hcl9
    have h39 : n9 < 1 := (List.getElem?_eq_some_iff.mp hn9).1
    obtain rfl : n9 = 0 := by omega
    obtain rfl : "java/lang/IndexOutOfBoundsException" = E9 := Option.some.inj hn9
    refine thw_catch hown htab [] [] 0 9 12 13 rfl (fun _ h9 => absurd h9 List.not_mem_nil) (by decide) (by decide) (by decide) (hts _ tw_1_168) (th_caIO hX.1) hc9 hv9 hcl9 ?_
    refine lv_astore_n (lv' := [(3, .ref q9), (0, .ref (ad 0)), (1, .int x1), (2, .ref oo)]) hx hb dL_counted_12 rfl hl (by decide) rfl (fun ls hl => ?_)
    refine lv_iconst (v := nI 1) hx hb dL_counted_13 (by decide) ?_
    refine thx_iret hx hb hr hlk hQ hS dL_counted_14 (Nat.le_of_ble_eq_true rfl) (Nat.le_of_ble_eq_true rfl) ?_
    exact th_lpX hr9 (kq_counted S x1) hg9 (hO.kept (hsm9.2 _ hO.lt (fun z9 => hno (hAs _ z9))))
  · skip
    rintro v9 H locs9 ⟨x9, rfl, hr9, he9, hg9⟩ hsm9 hS
    have hO9 := hO.kept (hsm9.2 _ hO.lt (fun z9 => hno (hAs _ z9)))
    refine lv_i2l hx hb dL_counted_7 rfl ?_
    refine th_lastS hx hb hK hO9 (Or.inr rfl) hS dL_counted_8 (fun H2 locs hO8 hsm8 hS => ?_)
    refine lv_goto (tgt := 15) hx hb dL_counted_9 (by decide) ?_
    refine lv_iconst (v := nI 0) hx hb dL_counted_15 (by decide) ?_
    refine thx_iret hx hb hr hlk hQ hS dL_counted_16 (Nat.le_of_ble_eq_true rfl) (Nat.le_of_ble_eq_true rfl) ?_
    exact th_lpT hr9 (congrArg Int32.toInt64 he9) (th_GWo hg9 hno hsm8) hO8

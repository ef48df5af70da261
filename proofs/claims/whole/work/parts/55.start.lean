theorem th_Gts {args : Array Value} {s : State} (h : ∀ w ∈ lw_tbl, w.before args s = true) : ∀ w ∈ th_G, w.before args s = true := fun w hw => h w (List.mem_filter.mp hw).1
theorem th_Nof {args : Array Value} {s : State} (h : ∀ w ∈ lw_tbl, w.before args s = true) : th_N s := fun w hw hn => va_Nw.of (by cases w <;> first | rfl | (simp [th_nw] at hn)) (h w hw)
theorem th_Stof {args : Array Value} {s : State} (h : ∀ w ∈ lw_tbl, w.before args s = true) : th_St s := fun own k tx hm => by
  have h1 := h _ hm
  cases hc : s.vm.findClass own with
  | none =>
    exfalso
    simp [Cond.before, Cond.holds, Cond.value, hc] at h1
  | some cur =>
    obtain ⟨k9, cf, i, a, -, -, -, -, -, h2⟩ := Cond.stringRef_spec hc h1
    exact ⟨a, vk_R.of h1 h2⟩
theorem th_Fcof {args : Array Value} {s : State} (h : ∀ w ∈ lw_tbl, w.before args s = true) : th_Fc s := ⟨fun w hw hk => va_Nw.of (by simp only [Bool.and_eq_true] at hk; exact hk.1) (h w hw), fun C hC => va_AO.of (h _ hC)⟩
theorem th_arrP {args : Array Value} {s : State} {ty : FieldType} (hc : ∀ cA : ClassId, va_RA s cA ty = (s.vm.findClass ("[" ++ ty.toString) = some cA)) (h : (Cond.arrayClass ty).before args s = true) : ∃ cA : ClassId, ArrOfT s cA ty ∧ va_RA s cA ty := by
  obtain ⟨cA, kA, comp, h1, h2, h3⟩ := Cond.arrayClass_spec h
  exact ⟨cA, fun n z => ⟨fun k h => (by cases h), kA, h2, comp, h3⟩, by rw [hc]; exact h1⟩
theorem th_arrO {args : Array Value} {s : State} {C : String} (h : (Cond.arrayOver (.object C)).before args s = true) : ∃ cA : ClassId, ArrOfT s cA (.object C) ∧ va_RA s cA (.object C) := by
  obtain ⟨comp, cA, kA, h1, -, h3, h4, h5⟩ := Cond.arrayOver_spec h
  exact ⟨cA, fun n z => ⟨fun k h => (by cases h), kA, h3, comp, h4⟩, kA, comp, h3, h4, h1, h5⟩
/-- the classes and the rows of the tables are known -/
theorem th_Kof {args : Array Value} {s : State} (h : ∀ w ∈ lw_tbl, w.before args s = true) : ∃ Y : th_Y, th_K Y s := by
  have hts := th_Gts h
  obtain ⟨c0, iS0, hKn0⟩ := u_known (C := RX0) (T := TX0) (N := 3) (n := 3) hts inX0 (hts _ tw_1_27)
  obtain ⟨c1, iS1, hKn1⟩ := u_known (C := RX1) (T := TX1) (N := 2) (n := 2) hts inX1 (hts _ tw_1_75)
  obtain ⟨c2, iS2, hKn2⟩ := u_known (C := RX2) (T := TX2) (N := 3) (n := 3) hts inX2 (hts _ tw_1_87)
  obtain ⟨c3, iS3, hKn3⟩ := u_known (C := RX3) (T := TX3) (N := 6) (n := 6) hts inX3 (hts _ tw_1_104)
  obtain ⟨c4, iS4, hKn4⟩ := u_known (C := RX4) (T := TX4) (N := 7) (n := 7) hts inX4 (hts _ tw_1_33)
  obtain ⟨c5, iS5, hKn5⟩ := u_known (C := RX5) (T := TX5) (N := 5) (n := 5) hts inX5 (hts _ tw_1_15)
  obtain ⟨c6, iS6, hKn6⟩ := u_known (C := RX6) (T := TX6) (N := 22) (n := 22) hts inX6 (hts _ tw_3_150)
  obtain ⟨b0, hb0⟩ := th_arrP (fun _ => rfl) (hts _ tw_1_61)
  obtain ⟨b1, hb1⟩ := th_arrP (fun _ => rfl) (hts _ tw_1_62)
  obtain ⟨b2, hb2⟩ := th_arrO (h _ to_View)
  obtain ⟨b3, hb3⟩ := th_arrO (h _ to_Watcher)
  obtain ⟨b4, hb4⟩ := th_arrP (fun _ => rfl) (hts _ tw_4_174)
  refine ⟨((fun k => [c0, c1, c2, c3, c4, c5, c6].getD k 0, fun k => [iS0, iS1, iS2, iS3, iS4, iS5, iS6].getD k (fun _ => 0)), fun k => [b0, b1, b2, b3, b4].getD k 0), ⟨fun k q hq => ?_, fun k q hq => ?_⟩, th_Nof h⟩
  · have hk : k < 7 := (List.getElem?_eq_some_iff.mp hq).1
    rcases (show k = 0 ∨ k = 1 ∨ k = 2 ∨ k = 3 ∨ k = 4 ∨ k = 5 ∨ k = 6 by omega) with rfl | rfl | rfl | rfl | rfl | rfl | rfl
    · have e9 := Option.some.inj hq
      rw [← e9]
      exact hKn0
    · have e9 := Option.some.inj hq
      rw [← e9]
      exact hKn1
    · have e9 := Option.some.inj hq
      rw [← e9]
      exact hKn2
    · have e9 := Option.some.inj hq
      rw [← e9]
      exact hKn3
    · have e9 := Option.some.inj hq
      rw [← e9]
      exact hKn4
    · have e9 := Option.some.inj hq
      rw [← e9]
      exact hKn5
    · have e9 := Option.some.inj hq
      rw [← e9]
      exact hKn6
  · have hk : k < 5 := (List.getElem?_eq_some_iff.mp hq).1
    rcases (show k = 0 ∨ k = 1 ∨ k = 2 ∨ k = 3 ∨ k = 4 by omega) with rfl | rfl | rfl | rfl | rfl
    · have e9 := Option.some.inj hq
      rw [← e9]
      exact hb0
    · have e9 := Option.some.inj hq
      rw [← e9]
      exact hb1
    · have e9 := Option.some.inj hq
      rw [← e9]
      exact hb2
    · have e9 := Option.some.inj hq
      rw [← e9]
      exact hb3
    · have e9 := Option.some.inj hq
      rw [← e9]
      exact hb4
theorem th_Tof {args : Array Value} {s : State} (h : ∀ w ∈ lw_tbl, w.before args s = true) (hg : (Jvm.Cond.and given_1 narrow_1).before args s = true) : th_T (fun q : Nat => s.heap.size ≤ q) s ∧ th_nc s := by
  have hs := flat_of_before _ hg
  have hA9 : ∀ a : Nat, a < s.heap.size → ¬ (fun q : Nat => s.heap.size ≤ q) a := fun a h9 h8 => absurd h9 (Nat.not_lt.mpr h8)
  have q1 : Cond.laysStatic Bundle.tN "UNASSIGNED_STACK" Bundle.steD ∈ lw_tbl := List.mem_append_right _ (List.mem_append_left _ (List.mem_of_getElem? (i := 206) rfl))
  have q2 : Cond.laysStatic Bundle.tN "SUPPRESSED_SENTINEL" Bundle.listD ∈ lw_tbl := List.mem_append_right _ (List.mem_append_left _ (List.mem_of_getElem? (i := 208) rfl))
  have q3 : Cond.initialized Bundle.tN ∈ lw_tbl := List.mem_append_right _ (List.mem_append_left _ (List.mem_of_getElem? (i := 8) rfl))
  have q4 : (Cond.isRef (.static Bundle.tN "UNASSIGNED_STACK" Bundle.steD)).before args s = true := hs _ (by decide +kernel)
  have q5 : (Cond.isRef (.static Bundle.tN "SUPPRESSED_SENTINEL" Bundle.listD)).before args s = true := hs _ (by decide +kernel)
  have n1 : (Cond.not (.castable "java/lang/IllegalArgumentException" "java/lang/IndexOutOfBoundsException")).before args s = true := hs _ (by decide +kernel)
  have n2 : (Cond.not (.castable "java/lang/IllegalStateException" "java/lang/IndexOutOfBoundsException")).before args s = true := hs _ (by decide +kernel)
  have n3 : (Cond.not (.castable "java/lang/IllegalStateException" "java/lang/IllegalArgumentException")).before args s = true := hs _ (by decide +kernel)
  exact ⟨⟨vx_Zqof (h _ q1) (h _ q3) q4 hA9, vx_Zqof (h _ q2) (h _ q3) q5 hA9, th_Stof h, th_Fcof h⟩, va_Nc.of n1, va_Nc.of n2, va_Nc.of n3⟩
section
variable {p : Program} {l : Launch} {e : Env} {R : Room} {s : State} {m : MethodId} {args : Array Value} {below : List Frame} {meth : Method} {c : Code} {H : Heap} {locs : List Loc} {cells slots : Nat} {Q : State → Prop}
variable {cc : ByteArray} {pc : Nat} {ls : Array Slot} {rest : List Value} {A : Nat → Prop} {H0 : Heap} {Y : th_Y}
theorem th_newL1 (hexec : p.tables.exec = Jvm.exec) (hb : c.code = cc) (hts : ∀ w ∈ th_G, w.before args s = true) (warr : Cond.arrayClass .long ∈ th_G) (hK : th_k Y s) (hS : va_S A H0 H locs) (hcells : cells + 1 ≤ R.cells) (hslots : slots + 1 ≤ R.slots) (hdg : decode cc pc = .ok (.newarray .long, 2))
    (kk : ∀ (H1 : Heap), va_at Y.1 vwCl (H.size, .inl (Y.2 4, 1, .inr (.inl (fun _ => 0)))) H1 → th_Same (fun q => H.size ≤ q) H H1 → H.size < H1.size → va_S A H0 H1 locs → W p l e R s m args below meth c H1 locs (cells + 1) (slots + 1) Q (F0 m (pc + 2) ls (.ref H.size :: rest))) : W p l e R s m args below meth c H locs cells slots Q (F0 m pc ls (.int (nI 1) :: rest)) := by
  refine va_newaK (atype := .long) (N := 1) hexec hb (hts _ warr) rfl hdg rfl (nI_pos (by decide)) (nI_clamp (by decide)) (by decide) hcells hslots rfl fun H1 cA e1 z1 o1 hAr hNm => ?_
  have e9 : cA = Y.2 4 := Option.some.inj (hNm.symm.trans (hK.2 4 _ rfl).2)
  subst e9
  refine kk H1 ?_ ⟨by omega, fun q hq _ => o1 q hq⟩ (by omega) ⟨Nat.le_trans hS.1 (by omega), fun x h1 h2 => (o1 x (Nat.lt_of_lt_of_le h1 hS.1)).trans (hS.2.1 x h1 h2), hS.2.2⟩
  show H1[H.size]? = some (vp_cell _ _)
  rw [e1]
  rfl
end
theorem th_GWlt {Y : th_Y} {g : Nat} {A : Nat → Prop} {S : th_S} {H : Heap} (h : th_GW Y g A S H) : th_GW Y g (fun q => A q ∧ q < H.size) S H := by
  obtain ⟨ad, Vx, B, dsx, kvx, ks, wy, wz, h0, hAd, hG, hJ, hv⟩ := h
  exact ⟨ad, Vx, B, dsx, kvx, ks, wy, wz, h0, fun k hk => ⟨hAd k hk, th_glt hG hk⟩, hG, hJ, hv⟩
theorem th_Scomp {A P : Nat → Prop} {H0 H H1 : Heap} (h : va_S A H0 H []) (hs : th_Same P H H1) (hP : ∀ q, P q → A q) : va_S A H0 H1 [] := ⟨Nat.le_trans h.1 hs.1, fun q h1 h2 => (hs.2 q (Nat.lt_of_lt_of_le h1 h.1) (fun z => h2 (hP q z))).trans (h.2.1 q h1 h2), fun q h9 => by cases h9⟩
set_option maxHeartbeats 4000000 in
set_option maxRecDepth 100000 in
theorem whole_start {p : Program} {e : Env} {s : State} {m : MethodId} {below : List Frame} {meth : Method} {c : Code} (l : Launch) (hflags : l.flags = flags0) {b L : Nat} {xs : Nat → Int32} (hL : L ≤ 2560) (C0 : lw_At p s m meth c b L xs) : W p l e room_1 s m #[Value.ref b] below meth c s.heap [] 0 0 (lw_Z below #[Value.ref b] s) (entryFrame m ([Value.ref b] : List Value).toArray 7) := by
  obtain ⟨hx, hb, hr, hml, hown, hts9, hX, hbl, hlk, hgv⟩ := id C0
  have hl0 : l.stackTraces = false := by
    unfold Launch.stackTraces
    rw [hflags]
    decide
  have hts := th_Gts hts9
  obtain ⟨Y, hKN⟩ := th_Kof hts9
  obtain ⟨hT, hnc⟩ := th_Tof hts9 hgv
  obtain ⟨hK, hN⟩ := id hKN
  have hown : s.vm.findClass RL = some m.cls := hown
  have hA : ∀ q : Nat, s.heap.size ≤ q → (fun q : Nat => s.heap.size ≤ q) q := fun _ h => h
  have hbA : ¬ (fun q : Nat => s.heap.size ≤ q) b := Nat.not_le.mpr hbl
  have hS : va_S (fun q : Nat => s.heap.size ≤ q) s.heap s.heap [] := va_S.rf
  have hP : va_P Y.1 vwCl [] s.heap := fun k q h => by simp at h
  have hD : va_D (fun q : Nat => s.heap.size ≤ q) [] := ⟨fun i j p q h => by simp at h, fun k q h => by simp at h⟩
  have hl := lv_entry ([.ref b]) (n := 7) (Nat.le_of_ble_eq_true rfl)
  rw [lg_entry_eq]
  generalize (lg_sl ([.ref b]) ++ List.replicate (7 - (lg_sl ([.ref b])).length) Slot.unset).toArray = ls at hl ⊢
  have hl : lv_has ls 7 [(0, .ref b)] := hl
  refine va_new (D := Y.1) (A := (fun q : Nat => s.heap.size ≤ q)) (ws := []) (ci := 5) (fs := [.null, .null, .null, .null, .int (nI 0)]) (C := RX5) (T := TX5) (N := 5) hx hb hts inX5 tyX5 tyX5_ok hown (hts _ tw_1_14) (hts _ tw_1_15) (hts _ tw_1_1) hK (fun k q h => by simp at h) ⟨fun i j p q h => by simp at h, fun k q h => by simp at h⟩ hS hA rfl (fun j hj => by rcases (show j = 0 ∨ j = 1 ∨ j = 2 ∨ j = 3 ∨ j = 4 by omega) with rfl | rfl | rfl | rfl | rfl <;> rfl) (Nat.le_of_ble_eq_true rfl) (Nat.le_of_ble_eq_true rfl) dL_law_0 (fun g H1 hPH1 hDH1 hSH1 => ?_)
  have hPH1 : va_P Y.1 vwCl [(g, .inr (5, [.null, .null, .null, .null, .int (nI 0)]))] H1 := hPH1
  have hDH1 : va_D ((fun q : Nat => s.heap.size ≤ q)) [(g, .inr (5, [.null, .null, .null, .null, .int (nI 0)]))] := hDH1
  have hg1 : s.heap.size ≤ g := hDH1.2 0 _ rfl
  have hz1 : s.heap.size ≤ H1.size := hSH1.1
  have hgl : g < H1.size := (hPH1 0 _ rfl).lt
  refine lv_dup hx hb dL_law_3 rfl ?_
  refine thw_callI hx hb hml hown hts ⟨hK, hN⟩ hl hSH1 ⟨hT, rfl⟩ (rest := [.ref g]) (c_X5_init l hl0 Y _ g hPH1) ok_X5_init tw_1_16 dL_law_4 rfl rfl (Nat.le_of_ble_eq_true rfl) ⟨(Nat.le_of_ble_eq_true rfl), (Nat.le_of_ble_eq_true rfl)⟩ ⟨(Nat.le_of_ble_eq_true rfl), (Nat.le_of_ble_eq_true rfl)⟩ (fun q9 h9 => h9.elim (fun e9 => by rw [e9]; exact hg1) (fun h8 => Nat.le_trans hz1 h8)) (th_kv (fun H2 locs hp hsm hS => ?_))
  have hz2 : H1.size ≤ H2.size := hsm.1
  have hgw := th_GWlt hp
  refine va_forget hS.2.2 ?_
  have hS : va_S (fun q : Nat => s.heap.size ≤ q) s.heap H2 [] := ⟨hS.1, hS.2.1, fun q h => by cases h⟩
  refine lv_astore_n (lv' := [(1, .ref g), (0, .ref b)]) hx hb dL_law_7 rfl hl (by decide) rfl (fun ls hl => ?_)
  refine va_new (D := Y.1) (A := fun q : Nat => H2.size ≤ q) (ws := []) (ci := 6) (fs := [.int (nI 0), .null, .null, .int (nI 0), .null, .null, .null, .int (nI 0), .null, .null, .int (nI 0), .int (nI 0), .int (nI 0), .int (nI 0), .null, .null, .null, .null, .null, .null, .null, .null]) (C := RX6) (T := TX6) (N := 22) hx hb hts inX6 tyX6 tyX6_ok hown (hts _ tw_3_149) (hts _ tw_3_150) (hts _ tw_1_7) hK (fun k q h => by simp at h) ⟨fun i j p q h => by simp at h, fun k q h => by simp at h⟩ (va_S.rf : va_S (fun q : Nat => H2.size ≤ q) H2 H2 []) (fun _ h => h) rfl (fun j hj => by rcases (show j = 0 ∨ j = 1 ∨ j = 2 ∨ j = 3 ∨ j = 4 ∨ j = 5 ∨ j = 6 ∨ j = 7 ∨ j = 8 ∨ j = 9 ∨ j = 10 ∨ j = 11 ∨ j = 12 ∨ j = 13 ∨ j = 14 ∨ j = 15 ∨ j = 16 ∨ j = 17 ∨ j = 18 ∨ j = 19 ∨ j = 20 ∨ j = 21 by omega) with rfl | rfl | rfl | rfl | rfl | rfl | rfl | rfl | rfl | rfl | rfl | rfl | rfl | rfl | rfl | rfl | rfl | rfl | rfl | rfl | rfl | rfl <;> rfl) (Nat.le_of_ble_eq_true rfl) (Nat.le_of_ble_eq_true rfl) dL_law_8 (fun o H3 hPH3 hDH3 hSH3 => ?_)
  have hPH3 : va_P Y.1 vwCl [(o, .inr (6, [.int (nI 0), .null, .null, .int (nI 0), .null, .null, .null, .int (nI 0), .null, .null, .int (nI 0), .int (nI 0), .int (nI 0), .int (nI 0), .null, .null, .null, .null, .null, .null, .null, .null]))] H3 := hPH3
  have hDH3 : va_D (fun q : Nat => H2.size ≤ q) [(o, .inr (6, [.int (nI 0), .null, .null, .int (nI 0), .null, .null, .null, .int (nI 0), .null, .null, .int (nI 0), .int (nI 0), .int (nI 0), .int (nI 0), .null, .null, .null, .null, .null, .null, .null, .null]))] := hDH3
  have ho3 : H2.size ≤ o := hDH3.2 0 _ rfl
  have hz3 : H2.size ≤ H3.size := hSH3.1
  have hsm3 : th_Same (fun q : Nat => H2.size ≤ q) H2 H3 := ⟨hSH3.1, hSH3.2.1⟩
  have hS := th_Scomp hS hsm3 (fun q9 h9 => Nat.le_trans hz1 (Nat.le_trans hz2 h9))
  have hgw := th_GWkeep hgw (fun q9 h9 h8 => absurd h9.2 (Nat.not_lt.mpr h8)) hsm3
  refine lv_dup hx hb dL_law_11 rfl ?_
  refine th_callI hx hb hml hown hts ⟨hK, hN⟩ hl hS (rest := [.ref o]) (c_X6_init l Y _ o hPH3) ok_X6_init tw_3_151 dL_law_12 rfl rfl (Nat.le_of_ble_eq_true rfl) ⟨(Nat.le_of_ble_eq_true rfl), (Nat.le_of_ble_eq_true rfl)⟩ ⟨(Nat.le_of_ble_eq_true rfl), (Nat.le_of_ble_eq_true rfl)⟩ (fun q9 h9 => h9.elim (fun e9 => by rw [e9]; exact Nat.le_trans hz1 (Nat.le_trans hz2 ho3)) (fun h8 => Nat.le_trans hz1 (Nat.le_trans hz2 (Nat.le_trans hz3 h8)))) (th_kv (fun H4 locs hp4 hsm4 hS => ?_))
  obtain ⟨a19, a29, a39, a49, a59, a69, a79, a89, a99, a109, a119, a129, a139, a149, a159, kv, f1, f2, f3, hP4, hD4, hkv, hf4⟩ := hp4
  obtain ⟨ro, hro0, hroA, hJ, hR⟩ := th_RGnew hP4 hD4 hkv hf4
  have hz4 : H3.size ≤ H4.size := hsm4.1
  have hrl := th_RGlt hR
  have hr2 : ∀ j, j < 16 → H2.size ≤ ro j := fun j hj => (hroA j hj).elim (fun e9 => by rw [e9]; exact ho3) (fun h8 => Nat.le_trans hz3 h8)
  have hgw := th_GWkeep hgw (fun q9 h9 h8 => absurd h9.2 (Nat.not_lt.mpr (h8.elim (fun e9 => by rw [e9]; exact ho3) (fun h7 => Nat.le_trans hz3 h7)))) hsm4
  refine lv_astore_n (lv' := [(2, .ref o), (1, .ref g), (0, .ref b)]) hx hb dL_law_15 rfl hl (by decide) rfl (fun ls hl => ?_)
  refine lv_iconst (v := nI 1) hx hb dL_law_16 (by decide) ?_
  refine th_newL1 hx hb hts tw_4_174 hK hS (Nat.le_of_ble_eq_true rfl) (Nat.le_of_ble_eq_true rfl) dL_law_17 (fun H5 hO hsm5 hz5 hS => ?_)
  have hR := th_RGkeep hR (fun j hj h8 => absurd (hrl j hj) (Nat.not_lt.mpr h8)) hsm5
  have hgw := th_GWkeep hgw (fun q9 h9 h8 => absurd h9.2 (Nat.not_lt.mpr (Nat.le_trans hz3 (Nat.le_trans hz4 h8)))) hsm5
  have hLI : th_LI Y s.heap.size g o H4.size th_S0 H5 := ⟨ro, nI 0, fun _ => 0, hro0, hJ, fun j hj => ⟨Nat.le_trans hz1 (Nat.le_trans hz2 (hr2 j hj)), Nat.ne_of_lt (hrl j hj)⟩, Nat.le_trans hz1 (Nat.le_trans hz2 (Nat.le_trans hz3 hz4)), hR, hO, th_GWto hgw (fun q9 h9 => ⟨h9.1.elim (fun e9 => by rw [e9]; exact hg1) (fun h8 => Nat.le_trans hz1 h8), by have := h9.2; omega, fun j hj e9 => by have := h9.2; have := hr2 j hj; omega⟩)⟩
  refine lv_astore_n (lv' := [(3, .ref H4.size), (2, .ref o), (1, .ref g), (0, .ref b)]) hx hb dL_law_19 rfl hl (by decide) rfl (fun ls hl => ?_)
  refine lv_iconst (v := nI 0) hx hb dL_law_20 (by decide) ?_
  refine lv_istore (lv' := [(4, .int (nI 0)), (3, .ref H4.size), (2, .ref o), (1, .ref g), (0, .ref b)]) hx hb dL_law_21 hl (by decide) rfl (fun ls hl => ?_)
  refine W.widen (k := 41 + 8 * 0) (n := 1500 + 400 * 0) (Nat.le_of_ble_eq_true rfl) (Nat.le_of_ble_eq_true rfl) ?_
  exact law_loop l hl0 Y hL C0 hKN hts hT hnc g o H4.size (L + 6) 0 0 (by omega) rfl (by omega) th_S0 H5 _ ls hLI hS (lv_sub hl [4, 3, 2, 1, 0] rfl)

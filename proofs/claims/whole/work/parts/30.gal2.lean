/-! the texts of the exceptions, by their places in the tables -/
theorem ts_164 : Cond.stringRef RX5 164 "no such view" ∈ lw_tbl := List.mem_append_right _ (List.mem_append_left _ (List.mem_of_getElem? (i := 220) rfl))
theorem ts_170 : Cond.stringRef RX5 170 "a number is out of range" ∈ lw_tbl := List.mem_append_right _ (List.mem_append_right _ (List.mem_append_left _ (List.mem_of_getElem? (i := 20) rfl)))
theorem ts_173 : Cond.stringRef RX5 173 "the view would have too many leaves" ∈ lw_tbl := List.mem_append_right _ (List.mem_append_right _ (List.mem_append_left _ (List.mem_of_getElem? (i := 39) rfl)))
theorem ts_63 : Cond.stringRef RX5 63 "there are as many views as there can be" ∈ lw_tbl := List.mem_append_right _ (List.mem_append_right _ (List.mem_append_left _ (List.mem_of_getElem? (i := 76) rfl)))
theorem ts_74 : Cond.stringRef RX5 74 "no such leaf" ∈ lw_tbl := List.mem_append_right _ (List.mem_append_right _ (List.mem_append_left _ (List.mem_of_getElem? (i := 95) rfl)))
theorem ts_97 : Cond.stringRef RX5 97 "no such place in the proof, nor right behind it" ∈ lw_tbl := List.mem_append_right _ (List.mem_append_right _ (List.mem_append_left _ (List.mem_of_getElem? (i := 210) rfl)))
theorem ts_100 : Cond.stringRef RX5 100 "the proof has as many sums as it can have" ∈ lw_tbl := List.mem_append_right _ (List.mem_append_right _ (List.mem_append_left _ (List.mem_of_getElem? (i := 212) rfl)))
theorem ts_106 : Cond.stringRef RX5 106 "the proof has no sum" ∈ lw_tbl := List.mem_append_right _ (List.mem_append_right _ (List.mem_append_left _ (List.mem_of_getElem? (i := 224) rfl)))
theorem ts_112 : Cond.stringRef RX5 112 "no such place in the proof" ∈ lw_tbl := List.mem_append_right _ (List.mem_append_right _ (List.mem_append_right _ (List.mem_append_left _ (List.mem_of_getElem? (i := 0) rfl))))
theorem ts_166 : Cond.stringRef RX5 166 "no such watcher" ∈ lw_tbl := List.mem_append_right _ (List.mem_append_right _ (List.mem_append_right _ (List.mem_append_left _ (List.mem_of_getElem? (i := 92) rfl))))
section
variable {p : Program} {l : Launch} {e : Env} {R : Room} {s : State} {m : MethodId} {args : Array Value} {below : List Frame} {meth : Method} {c : Code} {H : Heap} {locs : List Loc} {cells slots : Nat} {Q : State → Prop}
variable {cc : ByteArray} {pc : Nat} {ls : Array Slot} {rest : List Value} {A : Nat → Prop} {H0 : Heap} {Y : th_Y} {a : Nat}
/-- a row of references is read -/
theorem th_aald {ws : va_W} {C : String} {cA : ClassId} {n j : Nat} {f : Nat → Option Nat} (hexec : p.tables.exec = Jvm.exec) (hb : c.code = cc) (hK : th_k Y s) (hP : va_P Y.1 vwCl ws H) (q0 t0 : Nat) (ha : ws[q0]? = some (a, .inl (cA, n, .inr (.inr (.inr (.inr f)))))) (ht : (th_tys Y)[t0]? = some (cA, .object C)) (hj : j < n) (hn : n < 2147483648) (hdg : decode cc pc = .ok (.aaload, 1))
    (ks : ∀ b : Nat, f j = some b → W p l e R s m args below meth c H locs cells slots Q (F0 m (pc + 1) ls (.ref b :: rest))) (kn : f j = none → W p l e R s m args below meth c H locs cells slots Q (F0 m (pc + 1) ls (.null :: rest))) : W p l e R s m args below meth c H locs cells slots Q (F0 m pc ls (.int (nI j) :: .ref a :: rest)) := by
  refine va_aldq hexec hb hK hP q0 t0 ha ht (vp_in_nI hj hn) hdg ?_
  rw [nI_clamp (by omega)]
  cases hf : f j with
  | none => exact kn hf
  | some b => exact ks b hf
/-- a field of a nest mate's object is written: the rest stays -/
theorem th_putN1 {own ref C host : String} {T : u_T} {N ci index : Nat} {fs : List Value} (hexec : p.tables.exec = Jvm.exec) (hb : c.code = cc) (hts : ∀ w ∈ th_G, w.before args s = true) (hin : ∀ w ∈ u_ws C T N, w ∈ th_G) (ty0 : Nat → FieldType) (hty : ∀ k, k < N → parseFieldDescriptor (T k).2.2.1 = some (ty0 k)) (hnm : ∀ a, a < N → ∀ b, b < N → a ≠ b → (T a).2.1 ≠ (T b).2.1) (hown : s.vm.findClass own = some m.cls) (hK : th_k Y s) (hP : va_P Y.1 vwCl [(a, .inr (ci, fs))] H) (hS0 : va_S A H0 H locs) (hA : A a) (hc : vwCl[ci]? = some (C, T, N)) (k : Nat) (hk : k < N) (hlink : (Cond.fieldLinkNest own index ref (T k).2.1 (T k).2.2.1 host).before args s = true) (hsame : ∀ x, s.fieldFound? (T k).1 (T k).2.1 (T k).2.2.1 = some x → s.fieldFound? ref (T k).2.1 (T k).2.2.1 = some x) (hfin : (T k).2.2.2 = false) {ty : FieldType} {v : Value} (hd : parseFieldDescriptor (T k).2.2.1 = some ty) (hn : narrow ty v = v) (hfit : fits ty v = true) (hl : k < fs.length)
    (hdg : decode cc pc = .ok (.putfield index, 3)) (kk : ∀ (H1 : Heap) (locs1 : List Loc), va_P Y.1 vwCl [(a, .inr (ci, fs.set k v))] H1 → th_Same (fun q => q ∈ [a]) H H1 → va_S A H0 H1 locs1 → W p l e R s m args below meth c H1 locs1 cells slots Q (F0 m (pc + 3) ls rest)) : W p l e R s m args below meth c H locs cells slots Q (F0 m pc ls (v :: .ref a :: rest)) := by
  have hap := va_apart (own := own) hts hin ty0 hty hnm hK hc
  obtain ⟨r, h1, cell, q1, q2, q3, q4⟩ := hP 0 _ rfl
  have hr : r = (C, T, N) := Option.some.inj (h1.symm.trans hc)
  subst hr
  obtain ⟨hS, hfc, kC, hkC, hkind⟩ := hK.1 ci _ hc
  obtain ⟨cf, kf, fi, f, hi, hsl⟩ := hS k hk
  have hlay := hts _ (hin _ (u_in_lay hk))
  unfold u_lay at hlay
  rw [if_neg (by rw [hfin]; decide)] at hlay
  have hst := (u_facts hfc hkC (u_lays hts hin hk) hi).1
  have h6 := u_store hfc hkC hkind hlay hi hd hn hfit
  refine va_WputK hexec hb (f := f) hown hlink (hsame _ hi) hst (by rw [q2]; exact h6) q1 q3 (by rw [hsl]; exact k2_hasslot (q4 k hk)) rfl rfl hdg fun H' e1 e2 e3 => ?_
  rw [hsl] at e1 ⊢
  have hD : va_D A [(a, (.inr (ci, fs) : va_E))] := ⟨fun i j x y hi hj _ => by
    have l1 := (List.getElem?_eq_some_iff.mp hi).1
    have l2 := (List.getElem?_eq_some_iff.mp hj).1
    simp only [List.length_cons, List.length_nil] at l1 l2
    omega, fun k q hq => by
    have l1 := (List.getElem?_eq_some_iff.mp hq).1
    simp only [List.length_cons, List.length_nil] at l1
    obtain rfl : k = 0 := by omega
    cases hq
    exact hA⟩
  exact kk H' _ (hP.set (p := 0) hD rfl ⟨_, hc, t_OB.to (V := updV (vp_V fs) k v) ⟨_, e1, q2, q3, t_set q4 hap hk v⟩ (fun j _ => vp_updV_set hl v j)⟩ e3) ⟨Nat.le_of_eq e2.symm, fun q _ hq => e3 q (fun z => hq (by rw [z]; exact List.mem_cons_self))⟩ (hS0.put e2 e3 hA)
end
/-! the gallery's state, as its cells hold it -/
def th_wI (S : th_S) (w : Nat) : Prop := ((S.2.2.2.2.2.2.1 w = none ∧ S.2.2.2.2.2.2.2 w 0 = -1) ∨ ∃ j k : Nat, S.2.2.2.2.2.2.1 w = some j ∧ j < S.1 ∧ k ≤ S.2.1 j ∧ S.2.2.2.2.2.2.2 w 0 = nI k) ∧ (S.2.2.2.2.2.2.2 w 2 = 0 ∨ S.2.2.2.2.2.2.2 w 2 = 1)
def th_Iv (S : th_S) (Vx B : Nat → Nat → Int32) (dsx kvx ks : Nat → Int32) : Prop :=
  (1 ≤ S.1 ∧ S.1 ≤ 3) ∧ (∀ i, i < S.1 → S.2.1 i ≤ 100 ∧ th_BI (Vx i) (B i) (S.2.1 i) ∧ ∀ j, j < S.2.1 i → Vx i j = S.2.2.1 i j ∧ th_ir (S.2.2.1 i j) 0 65536) ∧ S.2.2.2.1 ≤ 12 ∧ (∀ j, j < S.2.2.2.1 → dsx j = S.2.2.2.2.1 j) ∧ th_MI kvx ks ∧ (∀ j, j < 64 → kvx j = S.2.2.2.2.2.1 j) ∧ ∀ w, w < 4 → th_wI S w
def th_I (Y : th_Y) (ad : Nat → Nat) (S : th_S) (Vx B : Nat → Nat → Int32) (dsx kvx ks : Nat → Int32) (wy : Nat → Nat) (wz : Nat → Nat → Int32) (H : Heap) : Prop :=
  th_gP Y ad (th_gS Y ad S.1 S.2.1 Vx B S.2.2.2.1 dsx wy wz kvx ks S.2.2.2.2.2.2.1 S.2.2.2.2.2.2.2) H ∧ th_gJ ad (16 + 3 * S.1) ∧ th_Iv S Vx B dsx kvx ks
def th_GW (Y : th_Y) (g : Nat) (A : Nat → Prop) (S : th_S) (H : Heap) : Prop := ∃ (ad : Nat → Nat) (Vx B : Nat → Nat → Int32) (dsx kvx ks : Nat → Int32) (wy : Nat → Nat) (wz : Nat → Nat → Int32), ad 0 = g ∧ (∀ k, k < 16 + 3 * S.1 → A (ad k)) ∧ th_I Y ad S Vx B dsx kvx ks wy wz H
section
variable {Y : th_Y} {ad : Nat → Nat} {S : th_S} {Vx B : Nat → Nat → Int32} {dsx kvx ks : Nat → Int32} {wy : Nat → Nat} {wz : Nat → Nat → Int32} {H H1 : Heap} {z9 : Nat}
theorem th_GWs (hG : th_gP Y ad (th_gS Y ad S.1 S.2.1 Vx B S.2.2.2.1 dsx wy wz kvx ks S.2.2.2.2.2.2.1 S.2.2.2.2.2.2.2) H) (hJ : th_gJ ad (16 + 3 * S.1)) (hv : th_Iv S Vx B dsx kvx ks) : th_GW Y (ad 0) (th_gA ad S.1 z9) S H :=
  ⟨ad, Vx, B, dsx, kvx, ks, wy, wz, rfl, fun k hk => Or.inl ⟨k, hk, rfl⟩, hG, hJ, hv⟩
/-- leaves were added to a view -/
theorem th_GWV {i n : Nat} {f fx gx : Nat → Int32} (hG : th_gP Y ad (th_gS Y ad S.1 (va_up S.2.1 i n) (va_up Vx i fx) (va_up B i gx) S.2.2.2.1 dsx wy wz kvx ks S.2.2.2.2.2.2.1 S.2.2.2.2.2.2.2) H) (hJ : th_gJ ad (16 + 3 * S.1)) (hv : th_Iv S Vx B dsx kvx ks) (hn : S.2.1 i ≤ n) (h100 : n ≤ 100) (hB : th_BI fx gx n) (hf : ∀ j, j < n → fx j = f j ∧ th_ir (f j) 0 65536) : th_GW Y (ad 0) (th_gA ad S.1 z9) (th_sV S i n f) H := by
  refine ⟨ad, va_up Vx i fx, va_up B i gx, dsx, kvx, ks, wy, wz, rfl, fun k hk => Or.inl ⟨k, hk, rfl⟩, hG, hJ, ?_⟩
  obtain ⟨v1, v2, v3, v4, v5, v6, v7⟩ := hv
  refine ⟨v1, fun a ha => ?_, v3, v4, v5, v6, fun w hw => ?_⟩
  · show va_up S.2.1 i n a ≤ 100 ∧ th_BI (va_up Vx i fx a) (va_up B i gx a) (va_up S.2.1 i n a) ∧ ∀ j, j < va_up S.2.1 i n a → va_up Vx i fx a j = va_up S.2.2.1 i f a j ∧ th_ir (va_up S.2.2.1 i f a j) 0 65536
    by_cases h : a = i
    · subst h
      simp only [va_up_self]
      exact ⟨h100, hB, hf⟩
    · simp only [va_up_ne _ _ h]
      exact v2 a ha
  · obtain ⟨h1, h2⟩ := v7 w hw
    refine ⟨?_, h2⟩
    rcases h1 with h1 | ⟨j, k, e1, e2, e3, e4⟩
    · exact Or.inl h1
    · refine Or.inr ⟨j, k, e1, e2, ?_, e4⟩
      show k ≤ va_up S.2.1 i n j
      by_cases h : j = i
      · subst h; rw [va_up_self]; omega
      · rw [va_up_ne _ _ h]; exact e3
/-- the desk has another proof -/
theorem th_GWD {cnt : Nat} {d dx : Nat → Int32} {wy' : Nat → Nat} {wz' : Nat → Nat → Int32} (hG : th_gP Y ad (th_gS Y ad S.1 S.2.1 Vx B cnt dx wy' wz' kvx ks S.2.2.2.2.2.2.1 S.2.2.2.2.2.2.2) H) (hJ : th_gJ ad (16 + 3 * S.1)) (hv : th_Iv S Vx B dsx kvx ks) (h12 : cnt ≤ 12) (hd : ∀ j, j < cnt → dx j = d j) : th_GW Y (ad 0) (th_gA ad S.1 z9) (th_sD S cnt d) H := by
  obtain ⟨v1, v2, v3, v4, v5, v6, v7⟩ := hv
  exact ⟨ad, Vx, B, dx, kvx, ks, wy', wz', rfl, fun k hk => Or.inl ⟨k, hk, rfl⟩, hG, hJ, v1, v2, h12, hd, v5, v6, v7⟩
theorem th_GWM {kv kx ks' : Nat → Int32} (hG : th_gP Y ad (th_gS Y ad S.1 S.2.1 Vx B S.2.2.2.1 dsx wy wz kx ks' S.2.2.2.2.2.2.1 S.2.2.2.2.2.2.2) H) (hJ : th_gJ ad (16 + 3 * S.1)) (hv : th_Iv S Vx B dsx kvx ks) (hM : th_MI kx ks') (hk : ∀ j, j < 64 → kx j = kv j) : th_GW Y (ad 0) (th_gA ad S.1 z9) (th_sM S kv) H := by
  obtain ⟨v1, v2, v3, v4, v5, v6, v7⟩ := hv
  exact ⟨ad, Vx, B, dsx, kx, ks', wy, wz, rfl, fun k hk => Or.inl ⟨k, hk, rfl⟩, hG, hJ, v1, v2, v3, v4, hM, hk, v7⟩
theorem th_IvW {w : Nat} {k9 : Option Nat} {f9 : Nat → Int32} (hv : th_Iv S Vx B dsx kvx ks) (h1 : (k9 = none ∧ f9 0 = -1) ∨ ∃ j k : Nat, k9 = some j ∧ j < S.1 ∧ k ≤ S.2.1 j ∧ f9 0 = nI k) (h2 : f9 2 = 0 ∨ f9 2 = 1) : th_Iv (th_sW S w k9 f9) Vx B dsx kvx ks := by
  obtain ⟨v1, v2, v3, v4, v5, v6, v7⟩ := hv
  refine ⟨v1, v2, v3, v4, v5, v6, fun a ha => ?_⟩
  have hx := v7 a ha
  unfold th_wI at hx ⊢
  show ((va_up S.2.2.2.2.2.2.1 w k9 a = none ∧ va_up S.2.2.2.2.2.2.2 w f9 a 0 = -1) ∨ ∃ j k : Nat, va_up S.2.2.2.2.2.2.1 w k9 a = some j ∧ j < S.1 ∧ k ≤ S.2.1 j ∧ va_up S.2.2.2.2.2.2.2 w f9 a 0 = nI k) ∧ (va_up S.2.2.2.2.2.2.2 w f9 a 2 = 0 ∨ va_up S.2.2.2.2.2.2.2 w f9 a 2 = 1)
  by_cases h : a = w
  · subst h
    simp only [va_up_self]
    exact ⟨h1, h2⟩
  · simp only [va_up_ne _ _ h]
    exact hx
theorem th_GWW {w : Nat} {k9 : Option Nat} {f9 : Nat → Int32} (hG : th_gP Y ad (th_gS Y ad S.1 S.2.1 Vx B S.2.2.2.1 dsx wy wz kvx ks (va_up S.2.2.2.2.2.2.1 w k9) (va_up S.2.2.2.2.2.2.2 w f9)) H) (hJ : th_gJ ad (16 + 3 * S.1)) (hv : th_Iv S Vx B dsx kvx ks) (h1 : (k9 = none ∧ f9 0 = -1) ∨ ∃ j k : Nat, k9 = some j ∧ j < S.1 ∧ k ≤ S.2.1 j ∧ f9 0 = nI k) (h2 : f9 2 = 0 ∨ f9 2 = 1) : th_GW Y (ad 0) (th_gA ad S.1 z9) (th_sW S w k9 f9) H :=
  ⟨ad, Vx, B, dsx, kvx, ks, wy, wz, rfl, fun k hk => Or.inl ⟨k, hk, rfl⟩, hG, hJ, th_IvW hv h1 h2⟩
end
/-- the place of an exception among a method's -/
abbrev th_px (Y : th_Y) (names : List String) (g : Nat) (A : Nat → Prop) (S : th_S) (r : th_R) : String → Heap → Prop := fun E H => ∃ n : Nat, names[n]? = some E ∧ r.1 = n + 1 ∧ th_GW Y g A S H
abbrev th_po (Y : th_Y) (g : Nat) (A : Nat → Prop) (r : th_R) : Option Value → Heap → Prop := fun v H => ∃ x : Int32, v = some (.int x) ∧ r.1 = 0 ∧ x = r.2.1 ∧ th_GW Y g A r.2.2 H
theorem th_vf {nv j a b : Nat} (h : (if j < nv then some a else none) = some b) : j < nv ∧ a = b := by
  by_cases c : j < nv
  · rw [if_pos c] at h; exact ⟨c, Option.some.inj h⟩
  · rw [if_neg c] at h; cases h
theorem th_vn {nv j a : Nat} (h : (if j < nv then some a else none) = none) : ¬ j < nv := fun c => by rw [if_pos c] at h; cases h
theorem th_neg {x : Int32} {lo hi : Nat} (h : x < 0) (hh : hi ≤ 2147483648) : ¬ th_ir x lo hi := by
  rintro ⟨j, -, h2, rfl⟩
  exact nI_pos (by omega) h

abbrev th_pv (Y : th_Y) (g : Nat) (A : Nat → Prop) (r : th_R) : Option Value → Heap → Prop := fun v H => v = none ∧ r.1 = 0 ∧ th_GW Y g A r.2.2 H
theorem th_irE {x : Int32} {a b b' : Nat} (h : th_ir x a b) (e : b = b') : th_ir x a b' := e ▸ h
theorem th_gtn {a b : Int32} (h : a < b) : ¬ b ≤ a := by rw [Int32.lt_iff_toInt_lt] at h; rw [Int32.le_iff_toInt_le]; omega
theorem th_nlt {a b : Int32} (h : ¬ a < b) : b ≤ a := by rw [Int32.lt_iff_toInt_lt] at h; rw [Int32.le_iff_toInt_le]; omega
theorem th_ndV (i : Nat) : th_nd [16 + 3 * i, 16 + 3 * i + 1, 16 + 3 * i + 2] := by
  refine ⟨?_, ?_, ?_, trivial⟩ <;> intro b hb9 <;> simp only [List.mem_cons, List.not_mem_nil, or_false] at hb9 <;> omega
theorem th_ndDV (i : Nat) : th_nd [3, 4, 5, 6, 7, 8, 16 + 3 * i, 16 + 3 * i + 1, 16 + 3 * i + 2] := by
  refine ⟨?_, ?_, ?_, ?_, ?_, ?_, ?_, ?_, ?_, trivial⟩ <;> intro b hb9 <;> simp only [List.mem_cons, List.not_mem_nil, or_false] at hb9 <;> omega
theorem th_ndD : th_nd [3, 4, 5, 6, 7, 8] := by
  refine ⟨?_, ?_, ?_, ?_, ?_, ?_, trivial⟩ <;> intro b hb9 <;> simp only [List.mem_cons, List.not_mem_nil, or_false] at hb9 <;> omega
theorem th_ndE : th_nd [3, 4] := by
  refine ⟨?_, ?_, trivial⟩ <;> intro b hb9 <;> simp only [List.mem_cons, List.not_mem_nil, or_false] at hb9 <;> omega
theorem th_ndM : th_nd [9, 10, 11] := by
  refine ⟨?_, ?_, ?_, trivial⟩ <;> intro b hb9 <;> simp only [List.mem_cons, List.not_mem_nil, or_false] at hb9 <;> omega
theorem th_ndEM : th_nd [3, 4, 9, 10, 11] := by
  refine ⟨?_, ?_, ?_, ?_, ?_, trivial⟩ <;> intro b hb9 <;> simp only [List.mem_cons, List.not_mem_nil, or_false] at hb9 <;> omega
theorem th_ndWV {w : Nat} (i : Nat) (hw : w < 4) : th_nd [12 + w, 16 + 3 * i, 16 + 3 * i + 1, 16 + 3 * i + 2] := by
  refine ⟨?_, ?_, ?_, ?_, trivial⟩ <;> intro b hb9 <;> simp only [List.mem_cons, List.not_mem_nil, or_false] at hb9 <;> omega
theorem th_rtE {S : th_S} {Vx B : Nat → Nat → Int32} {dsx kvx ks : Nat → Int32} (hv : th_Iv S Vx B dsx kvx ks) {i m9 : Nat} (hi : i < S.1) (hm : m9 ≤ S.2.1 i) : th_rt (Vx i) 0 m9 = th_rt (S.2.2.1 i) 0 m9 := th_rt_c _ _ _ (fun j hj => by
  simp only [Nat.zero_add]
  exact ((hv.2.1 i hi).2.2 j (by omega)).1)
theorem th_nm1 {S : th_S} {Vx B : Nat → Nat → Int32} {dsx kvx ks : Nat → Int32} (hv : th_Iv S Vx B dsx kvx ks) {i : Nat} (hi : i < S.1) : ∀ j, j < S.2.1 i → Vx i j ≠ -1 := fun j hj => by
  obtain ⟨h1, k, -, h2, h3⟩ := (hv.2.1 i hi).2.2 j hj
  rw [h1, h3]
  intro z
  have := congrArg Int32.toInt z
  rw [nI_toInt (by omega)] at this
  have h5 : (-1 : Int32).toInt = -1 := by decide
  rw [h5] at this
  omega
/-- levels of the map out of its first 64 values -/
theorem th_lvE {f g : Nat → Int32} (h : ∀ j, j < 64 → f j = g j) : ∀ L i : Nat, L ≤ 6 → i < 64 / 2 ^ L → th_lv f L i = th_lv g L i := by
  intro L
  induction L with
  | zero => intro i _ hi; simp only [Nat.pow_zero, Nat.div_one] at hi; show th_ks _ = th_ks _; rw [h i hi]
  | succ L ih =>
    intro i hL hi
    have hx : 2 * i + 1 < 64 / 2 ^ L := by
      rcases (show L = 0 ∨ L = 1 ∨ L = 2 ∨ L = 3 ∨ L = 4 ∨ L = 5 by omega) with rfl | rfl | rfl | rfl | rfl | rfl <;> simp only [Nat.reducePow, Nat.reduceAdd, Nat.reduceDiv] at hi ⊢ <;> omega
    show th_jn _ _ = th_jn _ _
    rw [ih (2 * i) (by omega) (by omega), ih (2 * i + 1) (by omega) hx]
/-- what is worked out looks at the sums on the desk alone -/
theorem th_fdE {R k0 : Nat} {Fi d d' : Nat → Int32} {x : Int32} : ∀ k, (∀ j, j < k0 + k → d j = d' j) → th_fd R Fi d k0 x k = th_fd R Fi d' k0 x k
  | 0, _ => rfl
  | k + 1, h => by
    show (if _ then _ else _) = (if _ then _ else _)
    rw [th_fdE k (fun j hj => h j (by omega)), h (k0 + k) (by omega)]
theorem th_foE {R k0 : Nat} {Fi d d' : Nat → Int32} {x : Int32} : ∀ k, (∀ j, j < k0 + k → d j = d' j) → th_fo R Fi d k0 x k = th_fo R Fi d' k0 x k
  | 0, _ => rfl
  | k + 1, h => by
    show (if _ then _ else _) = (if _ then _ else _)
    rw [th_foE k (fun j hj => h j (by omega)), h (k0 + k) (by omega)]
theorem th_kfE {key : Nat} {d d' : Nat → Int32} {x : Int32} : ∀ k, (∀ j, j < k → d j = d' j) → th_kf key d x k = th_kf key d' x k
  | 0, _ => rfl
  | k + 1, h => by
    show (if _ then _ else _) = (if _ then _ else _)
    rw [th_kfE k (fun j hj => h j (by omega)), h k (by omega)]
theorem th_bE {P Q : Prop} (h : P ↔ Q) : th_b P = th_b Q := by rw [propext h]
theorem th_aLE {q : th_q3} {cnt : Nat} {d d' : Nat → Int32} {x y : Int32} (h : ∀ j, j < cnt → d j = d' j) : th_aL q cnt d x y ↔ th_aL q cnt d' x y := by
  unfold th_aL
  refine and_congr_right (fun e => ?_)
  rw [th_fdE (th_dL q) (fun j hj => h j (by omega))]
theorem th_aGE {q : th_q3} {cnt : Nat} {d d' : Nat → Int32} {x y : Int32} (h : ∀ j, j < cnt → d j = d' j) (hR : (th_wa q (th_dG q)).1 ≠ 0 → 1 ≤ th_gR q) : th_aG q cnt d x y ↔ th_aG q cnt d' x y := by
  unfold th_aG
  refine and_congr_right (fun e => ?_)
  refine and_congr ?_ ?_
  · rw [th_fdE (th_gR q) (fun j hj => h j (by omega)), th_foE (th_gR q) (fun j hj => h j (by omega))]
  · refine ⟨fun k z => ?_, fun k z => ?_⟩
    · have := hR z
      have k2 := k z
      rw [h 0 (by omega)] at k2
      rw [← th_fdE (d := d) (th_gR q - 1) (fun j hj => h j (by omega)), ← th_foE (d := d) (th_gR q - 1) (fun j hj => h j (by omega))]
      exact k2
    · have := hR z
      have k2 := k z
      rw [h 0 (by omega)]
      rw [th_fdE (d' := d') (th_gR q - 1) (fun j hj => h j (by omega)), th_foE (d' := d') (th_gR q - 1) (fun j hj => h j (by omega))]
      exact k2
theorem th_gR1 (q : th_q3) (h : (th_wa q (th_dG q)).1 ≠ 0) : 1 ≤ th_gR q := by unfold th_gR; rw [if_neg h]; omega

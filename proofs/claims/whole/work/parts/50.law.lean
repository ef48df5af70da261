/-! the law's own methods: each catches what the gallery throws, and lays the answer into a row of one long -/
def th_nc (U : State) : Prop := va_Nc "java/lang/IllegalArgumentException" "java/lang/IndexOutOfBoundsException" U ∧ va_Nc "java/lang/IllegalStateException" "java/lang/IndexOutOfBoundsException" U ∧ va_Nc "java/lang/IllegalStateException" "java/lang/IllegalArgumentException" U
theorem th_nc.warm {s U : State} (hW : s.WarmedH U.vm) (h : th_nc s) : th_nc U := ⟨va_Nc.moved hW.alike h.1, va_Nc.moved hW.alike h.2.1, va_Nc.moved hW.alike h.2.2⟩
def th_wsW (y : MethodName) (cc : ByteArray) (n : Nat) (hh : List (Nat × Nat × Nat × Nat)) : List Cond := Cond.codeWith y cc n (some .int) hh :: th_G
def th_MW (l : Launch) (Y : th_Y) (y : MethodName) (cc : ByteArray) (n : Nat) (hh : List (Nat × Nat × Nat × Nat)) (rm : Room) (av : List Value) (H0 : Heap) (A : Nat → Prop) (post : Option Value → Heap → Prop) : Prop :=
  vx_Met l y (th_wsW y cc n hh) rm (va_Pc av (fun U => U.heap = H0 ∧ th_K Y U ∧ th_T A U ∧ th_nc U)) (th_Q A H0 post) (th_XQ A H0 (fun _ _ => False)) rm.cells rm.slots A
theorem th_MW.intro {l : Launch} {Y : th_Y} {y : MethodName} {cc : ByteArray} {n : Nat} {hh : List (Nat × Nat × Nat × Nat)} {rm : Room} {av : List Value} {H0 : Heap} {A : Nat → Prop} {post : Option Value → Heap → Prop} (hy : plainName y.cls = true) (hn : (lg_sl av).length ≤ n)
    (body : ∀ (p : Program) (e : Env) (s : State) (m : MethodId) (args : Array Value) (below : List Frame) (meth : Method) (c : Code) (ls : Array Slot) (Q : State → Prop), Q = vx_MQ below (th_Q A H0 post) (th_XQ A H0 (fun _ _ => False)) args s rm.cells rm.slots A → th_C p s m meth c args y cc n (some .int) → th_K Y s → lv_has ls n (lv_args 0 av) → va_S A H0 H0 [] →
      (th_T A s ∧ s.heap = H0 ∧ th_nc s) → c.exceptionTable.toList = tableOf hh → W p l e rm s m args below meth c H0 [] 0 0 Q (F0 m 0 ls [])) : th_MW l Y y cc n hh rm av H0 A post := by
  refine vx_ofWH (cc := cc) (maxL := n) (ret := some .int) (hh := hh) hy rfl ?_
  intro p e s m args below meth c s₁ B hml hv
  obtain ⟨rfl, hs, hK, hT, hN⟩ := hv
  have hts : ∀ w ∈ th_wsW y cc n hh, w.before av.toArray s = true := atoms_spec (ws := th_wsW y cc n hh) B.pre
  have htab := vx_table (x := y) B (hts _ List.mem_cons_self)
  have h := body p e s m av.toArray below meth c _ _ rfl ⟨B.exec, B.bytes, B.returns, hml, findClass_of_methodNamed B.named, fun w hw => hts w (List.mem_cons_of_mem _ hw), B.notSynchronized, (name_of_methodNamed B.named B.method).1⟩ hK (lv_entry av hn) va_S.rf ⟨hT, hs, hN⟩ htab
  rw [lg_entry_eq, hs]
  exact h
theorem thw_bl {av : List Value} {H0 : Heap} {Y : th_Y} {A : Nat → Prop} : FrameBlind (va_Pc av (fun U => U.heap = H0 ∧ th_K Y U ∧ th_T A U ∧ th_nc U)) := fun a U g mk q => ⟨q.1, q.2.1, th_K.warm (s := U) (U := U.calling g mk a) (State.WarmedH.refl U) q.2.2.1, th_T.at (s := U) (U := U.calling g mk a) q.2.2.2.1 (State.WarmedH.refl U) va_S.rf rfl (fun _ h => h), th_nc.warm (s := U) (U := U.calling g mk a) (State.WarmedH.refl U) q.2.2.2.2⟩
theorem th_ginW {y : MethodName} {cc : ByteArray} {n : Nat} {hh : List (Nat × Nat × Nat × Nat)} (h : Cond.codeWith y cc n (some .int) hh ∈ th_G) : GoodIn th_G (th_wsW y cc n hh) := fun w hw => by
  have hm : w ∈ th_G := (List.mem_cons.mp hw).elim (fun e => by rw [e]; exact h) id
  exact ⟨hm, good_of_word (th_good w hm)⟩
section
variable {p : Program} {l : Launch} {e : Env} {R : Room} {s : State} {m : MethodId} {args : Array Value} {below : List Frame} {meth : Method} {c : Code} {H : Heap} {locs : List Loc} {cells slots : Nat} {Q : State → Prop}
variable {cc : ByteArray} {pc : Nat} {ls : Array Slot} {rest st0 : List Value} {A A' : Nat → Prop} {H0 : Heap} {post' : Option Value → Heap → Prop} {px' : String → Heap → Prop} {a : Nat}
variable {Y : th_Y} {y : MethodName} {cy : ByteArray} {ny k nL idx : Nat} {ret : Option FieldType} {rm : Room} {av : List Value} {own : String} {lv : List (Nat × Value)} {b : Addr} {hh : List (Nat × Nat × Nat × Nat)}
/-- a long is laid into the row of one -/
theorem th_lastS {f : Nat → Int64} {x : Int64} (hexec : p.tables.exec = Jvm.exec) (hb : c.code = cc) (hK : th_k Y s) (hP : va_at Y.1 vwCl (a, .inl (Y.2 4, 1, .inr (.inl f))) H) (hA : A a) (hS : va_S A H0 H locs) (hdg : decode cc pc = .ok (.lastore, 1))
    (kk : ∀ (H1 : Heap) (locs1 : List Loc), va_at Y.1 vwCl (a, .inl (Y.2 4, 1, .inr (.inl (vp_updL f 0 x)))) H1 → th_Same (fun q => q = a) H H1 → va_S A H0 H1 locs1 → W p l e R s m args below meth c H1 locs1 cells slots Q (F0 m (pc + 1) ls rest)) : W p l e R s m args below meth c H locs cells slots Q (F0 m pc ls (.long x :: .int (nI 0) :: .ref a :: rest)) := by
  have hin : vp_in (nI 0) 1 := vp_in_nI (by decide) (by decide)
  refine W.last hexec hb hP ((hK.2 4 _ rfl).1 1 (fun j => .long (f j))) (fun q => by cases q) (by show ¬ ((nI 0) < 0 ∨ (arrV _ _ _).slots.size ≤ _); rw [arrV_size]; exact hin) rfl rfl hdg fun H1 e z oq => ?_
  refine kk H1 _ ?_ ⟨Nat.le_of_eq z.symm, fun q _ hq => oq q hq⟩ (hS.put z oq hA)
  show H1[a]? = some (vp_cell _ _)
  rw [e]
  rw [vp_cell_l, vp_cell_l, arrV_store]
  congr 2
  funext q
  by_cases hq : q = (nI 0).toNatClampNeg
  · subst hq
    simp only [updV, vp_updL, if_pos]
    rfl
  · have hq0 : ¬ q = 0 := hq
    simp [updV, vp_updL, hq, hq0]
theorem thw_callV {ci : Nat} {fs : List Value} {T : u_T} {N : Nat} (hexec : p.tables.exec = Jvm.exec) (hb : c.code = cc) (hml : c.maxLocals = nL) (hown : s.vm.findClass own = some m.cls) (hts : ∀ w ∈ th_G, w.before args s = true) (hK : th_K Y s) (hl : lv_has ls nL lv) (hS : va_S A H0 H locs) (hX : th_T A s ∧ s.heap = H0)
    (hB : va_at Y.1 vwCl (b, .inr (ci, fs)) H) (hci : vwCl[ci]? = some (y.cls, T, N))
    (hC : th_MX l Y y cy ny ret rm (.ref b :: av) H A' post' px') (ok : th_okV y cy ny ret k) (w1 : Cond.methodLink own idx y ∈ th_G) (hdg : decode cc pc = .ok (.invokevirtual idx, 3)) (hst : st0 = av.reverse ++ .ref b :: rest) (hn : av.length = k) (hro : (rest.map fun v => v.category).sum ≤ 8) (hR : rm.frames + 1 ≤ R.frames ∧ 8 + (ny + 11) + rm.locals ≤ R.locals) (hf : cells + rm.cells ≤ R.cells ∧ slots + rm.slots ≤ R.slots) (hA : ∀ q, A' q → A q)
    (kx : ∀ (E : String) (ce : Cell) (q9 : Nat) (H1 : Heap) (locs1 : List Loc), px' E H1 → th_Same A' H H1 → va_S A H0 H1 locs1 → H1[q9]? = some ce → ce.vm = .none → s.vm.findClass E = some ce.cls → vx_W p l e R s m args below meth c H1 locs1 (cells + rm.cells) (slots + rm.slots) Q (F0 m pc ls rest) q9)
    (kk : ∀ (v : Option Value) (H1 : Heap) (locs1 : List Loc), post' v H1 → th_Same A' H H1 → va_S A H0 H1 locs1 → W p l e R s m args below meth c H1 locs1 (cells + rm.cells) (slots + rm.slots) Q (F0 m (pc + 3) ls (v.toList ++ rest))) : W p l e R s m args below meth c H locs cells slots Q (F0 m pc ls st0) := by
  obtain ⟨hT, hs⟩ := hX
  subst hs
  refine thx_after (vx_runV (C := y.cls) (As := av) (rest := rest) (nL := nL) ⟨hexec, hb, hml, hown, hts⟩ hC ⟨callB_of k hts (th_gin ok.1.1) rfl rfl rfl (hts _ ok.1.2.1) (hts _ w1) ok.1.2.2 hR, hts _ ok.2.1, hts _ ok.2.2⟩ ⟨thx_bl, ?_, fun U hU hW => ⟨rfl, hU, th_K.warm hW hK, th_T.at hT hW hS hU hA⟩⟩ rfl hn hl.1 hst (lv_room hro) hdg hf) hS hA kx kk
  obtain ⟨r, h1, cell, q1, q2, q3, -⟩ := hB
  have hr : r = (y.cls, T, N) := Option.some.inj (h1.symm.trans hci)
  subst hr
  exact ⟨cell, q1, by rw [q3]; rfl, by rw [q2]; exact (hK.1.1 ci _ hci).2.1⟩
theorem thw_met {l : Launch} {y : MethodName} {ws : List Cond} {rm : Room} {Pc : Array Value → State → Prop} {A : Nat → Prop} {H0 : Heap} {post : Option Value → Heap → Prop} {mc ms : Nat} {free : Addr → Prop} (h : vx_Met l y ws rm Pc (th_Q A H0 post) (th_XQ A H0 (fun _ _ => False)) mc ms free) : Met l y ws rm Pc (th_Q A H0 post) mc ms free := fun p e ha h1 h2 s m args below hf happ hP hk => by
  obtain ⟨n, o, q1, q2, q3, q4⟩ := h p e ha h1 h2 s m args below hf happ hP hk
  refine ⟨n, o, q1, q2, q3, ?_⟩
  rcases q4 with q4 | ⟨q, -, E, ce, L, hxc, -⟩
  · exact q4
  · exact hxc.1.elim
theorem thw_callI (hexec : p.tables.exec = Jvm.exec) (hb : c.code = cc) (hml : c.maxLocals = nL) (hown : s.vm.findClass own = some m.cls) (hts : ∀ w ∈ th_G, w.before args s = true) (hK : th_K Y s) (hl : lv_has ls nL lv) (hS : va_S A H0 H locs) (hX : th_T A s ∧ s.heap = H0)
    (hC : th_MX l Y y cy ny none rm (.ref b :: av) H A' post' (fun _ _ => False)) (ok : th_okI y cy ny k) (w1 : Cond.methodLink own idx y ∈ th_G) (hdg : decode cc pc = .ok (.invokespecial idx, 3)) (hst : st0 = av.reverse ++ .ref b :: rest) (hn : av.length = k) (hro : (rest.map fun v => v.category).sum ≤ 8) (hR : rm.frames + 1 ≤ R.frames ∧ 8 + (ny + 11) + rm.locals ≤ R.locals) (hf : cells + rm.cells ≤ R.cells ∧ slots + rm.slots ≤ R.slots) (hA : ∀ q, A' q → A q)
    (kk : ∀ (v : Option Value) (H1 : Heap) (locs1 : List Loc), post' v H1 → th_Same A' H H1 → va_S A H0 H1 locs1 → W p l e R s m args below meth c H1 locs1 (cells + rm.cells) (slots + rm.slots) Q (F0 m (pc + 3) ls (v.toList ++ rest))) : W p l e R s m args below meth c H locs cells slots Q (F0 m pc ls st0) := by
  obtain ⟨hT, hs⟩ := hX
  subst hs
  exact th_after (va_runI (As := av) (rest := rest) (nL := nL) ⟨hexec, hb, hml, hown, hts⟩ (thw_met hC) ⟨callB_of k hts (th_gin ok.1.1) rfl rfl rfl (hts _ ok.1.2.1) (hts _ w1) ok.1.2.2 hR, ok.2.2, hts _ ok.2.1⟩ ⟨thx_bl, fun U hU hW => ⟨rfl, hU, th_K.warm hW hK, th_T.at hT hW hS hU hA⟩⟩ rfl hn hl.1 hst (lv_room hro) hdg hf) hS hA kk
/-- the law calls one of its own -/
theorem thw_callS (hexec : p.tables.exec = Jvm.exec) (hb : c.code = cc) (hml : c.maxLocals = nL) (hown : s.vm.findClass own = some m.cls) (hts : ∀ w ∈ th_G, w.before args s = true) (hK : th_K Y s) (hl : lv_has ls nL lv) (hS : va_S A H0 H locs) (hX : th_T A s ∧ s.heap = H0 ∧ th_nc s)
    (hC : th_MW l Y y cy ny hh rm av H A' post') (wc : Cond.codeWith y cy ny (some .int) hh ∈ th_G) (wi : Cond.initialized y.cls ∈ th_G) (wt : Cond.static y ∈ th_G) (hd : y.cls ≠ "java/lang/invoke/MethodHandle" ∧ y.cls ≠ "java/lang/invoke/VarHandle" ∧ (parseMethodDescriptor y.desc).map (fun d => d.parameters.length) = some k) (w1 : Cond.methodLink own idx y ∈ th_G) (hdg : decode cc pc = .ok (.invokestatic idx, 3)) (hst : st0 = av.reverse ++ rest) (hn : av.length = k) (hro : (rest.map fun v => v.category).sum ≤ 8) (hR : rm.frames + 1 ≤ R.frames ∧ 8 + (ny + 11) + rm.locals ≤ R.locals) (hf : cells + rm.cells ≤ R.cells ∧ slots + rm.slots ≤ R.slots) (hA : ∀ q, A' q → A q)
    (kk : ∀ (v : Option Value) (H1 : Heap) (locs1 : List Loc), post' v H1 → th_Same A' H H1 → va_S A H0 H1 locs1 → W p l e R s m args below meth c H1 locs1 (cells + rm.cells) (slots + rm.slots) Q (F0 m (pc + 3) ls (v.toList ++ rest))) : W p l e R s m args below meth c H locs cells slots Q (F0 m pc ls st0) := by
  obtain ⟨hT, hs, hN9⟩ := hX
  subst hs
  refine thx_after (px' := fun _ _ => False) (vx_runSX (hh := hh) (As := av) (rest := rest) (nL := nL) (n := k) (bytes := cy) (maxL := ny) (ret := some .int) ⟨hexec, hb, hml, hown, hts⟩ hC ⟨⟨rfl, rfl, hR.1, hR.2, pay_in hts (th_ginW wc), List.mem_cons_self⟩, hts _ wc, hts _ wi, ⟨hd.1, hd.2.1⟩, fun sig h => ?_, hts _ w1, hts _ wt⟩ ⟨thw_bl, fun U hU hW => ⟨rfl, hU, th_K.warm hW hK, th_T.at hT hW hS hU hA, hN9.warm hW⟩⟩ rfl hn hl.1 hst (lv_room hro) hdg hf) hS hA (fun _ _ _ _ _ h => h.elim) kk
  have h2 := hd.2.2
  rw [h] at h2
  exact (Option.some.inj h2).symm
/-- what is thrown is caught in the row x of the table -/
theorem thw_catch {E : String} {ce : Cell} {q9 : Nat} (hown : s.vm.findClass own = some m.cls) (htab : c.exceptionTable.toList = tableOf hh) (pre suf : List (Nat × Nat × Nat × Nat)) (x1 x2 x3 x4 : Nat) (hsp : hh = pre ++ (x1, x2, x3, x4) :: suf)
    (hpass : ∀ z ∈ pre, z.2.2.2 ≠ 0 ∧ ∃ nm : String, (Cond.classLink own z.2.2.2 nm).before args s = true ∧ va_Nc E nm s) (h1 : x1 ≤ pc) (h2 : pc < x2) (h0 : x4 ≠ 0) (hlink : (Cond.classLink own x4 E).before args s = true) (hcast : (Cond.castable E E).before args s = true) (hcell : H[q9]? = some ce) (hv : ce.vm = .none) (hcl : s.vm.findClass E = some ce.cls)
    (kk : W p l e R s m args below meth c H locs cells slots Q (F0 m x3 ls [.ref q9])) : vx_W p l e R s m args below meth c H locs cells slots Q (F0 m pc ls rest) q9 := by
  subst hsp
  refine vx_catch (x := ⟨x1, x2, x3, x4⟩) hown (tableOf pre) (tableOf suf) (by rw [htab]; unfold tableOf; rw [List.map_append, List.map_cons]) (fun z hz => ?_) ?_ h0 hlink hcast hcell hv hcl kk
  · unfold tableOf at hz
    obtain ⟨z0, hz0, rfl⟩ := List.mem_map.mp hz
    exact Or.inr (hpass z0 hz0)
  · show (decide (x1 ≤ pc) && decide (pc < x2)) = true
    rw [decide_eq_true h1, decide_eq_true h2]
    rfl
end
/-- what a call throws changes nothing -/
def th_Kq (S : th_S) (r : th_R) : Prop := r.1 ≠ 0 → r.2.2 = S
theorem th_KqI {S : th_S} {P : Prop} {a b : th_R} (ha : th_Kq S a) (hb : th_Kq S b) : th_Kq S (th_if P a b) := by
  rcases Classical.em P with h | h
  · rw [th_ifT h]; exact ha
  · rw [th_ifF h]; exact hb
theorem th_Kq0 {S S' : th_S} {x : Int32} : th_Kq S (0, x, S') := fun h => absurd rfl h
theorem th_KqS {S : th_S} {x : Int32} {n : Nat} : th_Kq S (n, x, S) := fun _ => rfl
/-- an answer that is true or false -/
def th_Kb (r : th_R) : Prop := r.1 = 0 → r.2.1 = nI 0 ∨ r.2.1 = nI 1
theorem th_KbI {P : Prop} {a b : th_R} (ha : P → th_Kb a) (hb : th_Kb b) : th_Kb (th_if P a b) := by
  rcases Classical.em P with h | h
  · rw [th_ifT h]; exact ha h
  · rw [th_ifF h]; exact hb
theorem th_Kbb {P : Prop} {S : th_S} {n : Nat} : th_Kb (n, th_b P, S) := fun _ => by
  rcases Classical.em P with h | h
  · exact Or.inr (th_bT h)
  · exact Or.inl (th_bF h)
theorem th_Kb1 {S : th_S} {n : Nat} : th_Kb (n, nI 1, S) := fun _ => Or.inr rfl
theorem th_Kb0 {S : th_S} {n : Nat} : th_Kb (n, nI 0, S) := fun _ => Or.inl rfl
theorem th_KbS {S : th_S} {x : Int32} {n : Nat} : th_Kb (n + 1, x, S) := fun h => absurd h (Nat.succ_ne_zero n)
section
variable {Y : th_Y} {g oo : Nat} {A A' P : Nat → Prop} {S : th_S} {H H1 : Heap}
theorem th_GWkeep (h : th_GW Y g A S H) (hA : ∀ q, A q → ¬ P q) (hs : th_Same P H H1) : th_GW Y g A S H1 := by
  obtain ⟨ad, Vx, B, dsx, kvx, ks, wy, wz, h0, hAd, hG, hJ, hv⟩ := h
  refine ⟨ad, Vx, B, dsx, kvx, ks, wy, wz, h0, hAd, fun k x hx => ?_, hJ, hv⟩
  have hk := hG k x hx
  exact hk.kept (hs.2 _ hk.lt (hA _ (hAd k (th_gdomS hx))))
theorem th_GWo (h : th_GW Y g A S H) (hno : ¬ A oo) (hs : th_Same (fun q => q = oo) H H1) : th_GW Y g A S H1 := th_GWkeep h (fun q9 hq9 (z9 : q9 = oo) => hno (z9 ▸ hq9)) hs
theorem th_GWto (h : th_GW Y g A S H) (hA : ∀ q, A q → A' q) : th_GW Y g A' S H := by
  obtain ⟨ad, Vx, B, dsx, kvx, ks, wy, wz, h0, hAd, hI⟩ := h
  exact ⟨ad, Vx, B, dsx, kvx, ks, wy, wz, h0, fun k hk => hA _ (hAd k hk), hI⟩
/-- what a wrapper leaves: the place of the exception, and the answer in the row -/
abbrev th_lp (Y : th_Y) (g : Nat) (A : Nat → Prop) (oo : Nat) (r : th_R) : Option Value → Heap → Prop := fun v H => v = some (.int (nI r.1)) ∧ th_GW Y g A r.2.2 H ∧ ∃ f : Nat → Int64, va_at Y.1 vwCl (oo, .inl (Y.2 4, 1, .inr (.inl f))) H ∧ (r.1 = 0 → f 0 = r.2.1.toInt64)
abbrev th_lq (Y : th_Y) (g : Nat) (A : Nat → Prop) (r : th_R) : Option Value → Heap → Prop := fun v H => v = some (.int (nI r.1)) ∧ th_GW Y g A r.2.2 H
theorem th_lpX {r : th_R} {f : Nat → Int64} {n : Nat} (hr : r.1 = n + 1) (hq : th_Kq S r) (hg : th_GW Y g A S H) (ho : va_at Y.1 vwCl (oo, .inl (Y.2 4, 1, .inr (.inl f))) H) : th_lp Y g A oo r (some (.int (nI (n + 1)))) H := by
  refine ⟨by rw [hr], ?_, f, ho, fun z => absurd z (by rw [hr]; exact Nat.succ_ne_zero n)⟩
  rw [hq (by rw [hr]; exact Nat.succ_ne_zero n)]
  exact hg
theorem th_lqX {r : th_R} {n : Nat} (hr : r.1 = n + 1) (hq : th_Kq S r) (hg : th_GW Y g A S H) : th_lq Y g A r (some (.int (nI (n + 1)))) H := by
  refine ⟨by rw [hr], ?_⟩
  rw [hq (by rw [hr]; exact Nat.succ_ne_zero n)]
  exact hg
theorem th_lpT {r : th_R} {f : Nat → Int64} {x : Int64} (hr : r.1 = 0) (hx : x = r.2.1.toInt64) (hg : th_GW Y g A r.2.2 H) (ho : va_at Y.1 vwCl (oo, .inl (Y.2 4, 1, .inr (.inl (vp_updL f 0 x)))) H) : th_lp Y g A oo r (some (.int (nI 0))) H :=
  ⟨by rw [hr], hg, _, ho, fun _ => (if_pos rfl : vp_updL f 0 x 0 = x).trans hx⟩
end

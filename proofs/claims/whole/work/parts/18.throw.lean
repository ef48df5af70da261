/-! contracts that return or throw -/
def th_Fc (U : State) : Prop := (∀ w ∈ lw_tbl, (w.onTables && w.keepsFace) = true → va_Nw w U) ∧ ∀ C : String, Cond.arrayOver (.object C) ∈ lw_tbl → va_AO C U
theorem th_Fc.warm {s U : State} (hW : s.WarmedH U.vm) (h : th_Fc s) : th_Fc U := ⟨fun w hw hk => by
  have h1 : w.before #[] s = true := h.1 w hw hk
  simp only [Bool.and_eq_true] at hk
  have h2 : w.before #[] (s.setVm U.vm) = true := Cond.before_shiftedFace (State.Shifted.of_warmed hW) _ hk.2 h1
  exact va_tabs hk.1 (rfl : (s.setVm U.vm).vm = U.vm) h2, fun C hC => va_AO.moved hW.alike (h.2 C hC)⟩
def th_St (U : State) : Prop := ∀ (own : String) (k : Nat) (tx : String), Cond.stringRef own k tx ∈ lw_tbl → ∃ a : Nat, vk_R own k tx a U
theorem th_St.warm {s U : State} (hW : s.WarmedH U.vm) (h : th_St s) : th_St U := fun own k tx hm => by
  obtain ⟨a, ha⟩ := h own k tx hm
  exact ⟨a, vk_R.warm hW ha⟩
def th_T (A : Nat → Prop) (U : State) : Prop := vx_Zq Bundle.tN "UNASSIGNED_STACK" Bundle.steD A U U.heap ∧ vx_Zq Bundle.tN "SUPPRESSED_SENTINEL" Bundle.listD A U U.heap ∧ th_St U ∧ th_Fc U
theorem th_T.at {A A' : Nat → Prop} {s U : State} {H : Heap} {locs : List Loc} (h : th_T A s) (hW : s.WarmedH U.vm) (hS : va_S A s.heap H locs) (hU : U.heap = H) (hA : ∀ q, A' q → A q) : th_T A' U := by
  obtain ⟨h1, h2, h3, h4⟩ := h
  refine ⟨?_, ?_, h3.warm hW, h4.warm hW⟩
  · rw [hU]; exact vx_Zq.narrow (vx_Zq.moved hW.alike (h1.kept hS.2.1)) hA
  · rw [hU]; exact vx_Zq.narrow (vx_Zq.moved hW.alike (h2.kept hS.2.1)) hA
def th_XQ (A : Nat → Prop) (H0 : Heap) (px : String → Heap → Prop) : String → State → State → Prop := fun E _ t => px E t.heap ∧ th_Same A H0 t.heap
def th_MX (l : Launch) (Y : th_Y) (y : MethodName) (cc : ByteArray) (n : Nat) (ret : Option FieldType) (rm : Room) (av : List Value) (H0 : Heap) (A : Nat → Prop) (post : Option Value → Heap → Prop) (px : String → Heap → Prop) : Prop :=
  vx_Met l y (th_ws y cc n ret) rm (va_Pc av (fun U => U.heap = H0 ∧ th_K Y U ∧ th_T A U)) (th_Q A H0 post) (th_XQ A H0 px) rm.cells rm.slots A
theorem th_MX.intro {l : Launch} {Y : th_Y} {y : MethodName} {cc : ByteArray} {n : Nat} {ret : Option FieldType} {rm : Room} {av : List Value} {H0 : Heap} {A : Nat → Prop} {post : Option Value → Heap → Prop} {px : String → Heap → Prop} (hy : plainName y.cls = true) (hn : (lg_sl av).length ≤ n)
    (body : ∀ (p : Program) (e : Env) (s : State) (m : MethodId) (args : Array Value) (below : List Frame) (meth : Method) (c : Code) (ls : Array Slot) (Q : State → Prop), Q = vx_MQ below (th_Q A H0 post) (th_XQ A H0 px) args s rm.cells rm.slots A → th_C p s m meth c args y cc n ret → th_K Y s → lv_has ls n (lv_args 0 av) → va_S A H0 H0 [] →
      (th_T A s ∧ s.heap = H0 ∧ ∀ x ∈ c.exceptionTable.toList, False) → W p l e rm s m args below meth c H0 [] 0 0 Q (F0 m 0 ls [])) : th_MX l Y y cc n ret rm av H0 A post px := by
  refine vx_ofW (cc := cc) (maxL := n) (ret := ret) hy rfl ?_
  intro p e s m args below meth c s₁ B hml htab hv
  obtain ⟨rfl, hs, hK, hT⟩ := hv
  have hts : ∀ w ∈ th_ws y cc n ret, w.before av.toArray s = true := atoms_spec (ws := th_ws y cc n ret) B.pre
  have h := body p e s m av.toArray below meth c _ _ rfl ⟨B.exec, B.bytes, B.returns, hml, findClass_of_methodNamed B.named, fun w hw => hts w (List.mem_cons_of_mem _ hw), B.notSynchronized, (name_of_methodNamed B.named B.method).1⟩ hK (lv_entry av hn) va_S.rf ⟨hT, hs, htab⟩
  rw [lg_entry_eq, hs]
  exact h
theorem thx_bl {av : List Value} {H0 : Heap} {Y : th_Y} {A : Nat → Prop} : FrameBlind (va_Pc av (fun U => U.heap = H0 ∧ th_K Y U ∧ th_T A U)) := fun a U g mk q => ⟨q.1, q.2.1, th_K.warm (s := U) (U := U.calling g mk a) (State.WarmedH.refl U) q.2.2.1, th_T.at (s := U) (U := U.calling g mk a) q.2.2.2 (State.WarmedH.refl U) va_S.rf rfl (fun _ h => h)⟩
section
variable {p : Program} {l : Launch} {e : Env} {R : Room} {s : State} {m : MethodId} {args : Array Value} {below : List Frame} {meth : Method} {c : Code} {H : Heap} {locs : List Loc} {cells slots : Nat} {Q : State → Prop}
variable {cc : ByteArray} {pc : Nat} {ls : Array Slot} {rest st0 : List Value} {A A' : Nat → Prop} {H0 : Heap} {post post' : Option Value → Heap → Prop} {px px' : String → Heap → Prop} {mc ms : Nat}
theorem thx_iret {v : Int32} (hexec : p.tables.exec = Jvm.exec) (hb : c.code = cc) (hr : meth.sig.returnType = some .int) (hlk : meth.locks = false) (hQ : Q = vx_MQ below (th_Q A H0 post) (th_XQ A H0 px) args s mc ms A) (hS : va_S A H0 H locs) (hdg : decode cc pc = .ok (.ireturn, 1)) (h1 : cells ≤ mc) (h2 : slots ≤ ms) (hp : post (some (.int v)) H) : W p l e R s m args below meth c H locs cells slots Q (F0 m pc ls [.int v]) := by
  subst hQ
  exact vx_ret (th_iret hexec hb hr hlk rfl hS hdg h1 h2 hp)
theorem thx_zret {v : Int32} (hexec : p.tables.exec = Jvm.exec) (hb : c.code = cc) (hr : meth.sig.returnType = some .boolean) (hlk : meth.locks = false) (hQ : Q = vx_MQ below (th_Q A H0 post) (th_XQ A H0 px) args s mc ms A) (hS : va_S A H0 H locs) (hdg : decode cc pc = .ok (.ireturn, 1)) (h1 : cells ≤ mc) (h2 : slots ≤ ms) (hv : v = 0 ∨ v = 1) (hp : post (some (.int v)) H) : W p l e R s m args below meth c H locs cells slots Q (F0 m pc ls [.int v]) := by
  subst hQ
  exact vx_ret (th_zret hexec hb hr hlk rfl hS hdg h1 h2 hv hp)
theorem thx_vret (hexec : p.tables.exec = Jvm.exec) (hb : c.code = cc) (hr : meth.sig.returnType = none) (hlk : meth.locks = false) (hQ : Q = vx_MQ below (th_Q A H0 post) (th_XQ A H0 px) args s mc ms A) (hS : va_S A H0 H locs) (hdg : decode cc pc = .ok (.return_, 1)) (h1 : cells ≤ mc) (h2 : slots ≤ ms) (hp : post none H) : W p l e R s m args below meth c H locs cells slots Q (F0 m pc ls []) := by
  subst hQ
  exact vx_ret (th_vret hexec hb hr hlk rfl hS hdg h1 h2 hp)
theorem thx_aret {a : Nat} {rn : String} (hexec : p.tables.exec = Jvm.exec) (hb : c.code = cc) (hr : meth.sig.returnType = some (.object rn)) (hlk : meth.locks = false) (hQ : Q = vx_MQ below (th_Q A H0 post) (th_XQ A H0 px) args s mc ms A) (hS : va_S A H0 H locs) (hdg : decode cc pc = .ok (.areturn, 1)) (h1 : cells ≤ mc) (h2 : slots ≤ ms) (hp : post (some (.ref a)) H) : W p l e R s m args below meth c H locs cells slots Q (F0 m pc ls [.ref a]) := by
  subst hQ
  exact vx_ret (th_aret hexec hb hr hlk rfl hS hdg h1 h2 hp)
/-- an exception that this method doesn't catch -/
theorem thx_out {E : String} {ce : Cell} {q9 : Nat} (hlk : meth.locks = false) (htab : ∀ x ∈ c.exceptionTable.toList, False) (hQ : Q = vx_MQ below (th_Q A H0 post) (th_XQ A H0 px) args s mc ms A) (hS : va_S A H0 H locs) (hcell : H[q9]? = some ce) (hv : ce.vm = .none) (hcl : s.vm.findClass E = some ce.cls) (h1 : cells ≤ mc) (h2 : slots ≤ ms) (hp : px E H) : vx_W p l e R s m args below meth c H locs cells slots Q (F0 m pc ls rest) q9 := by
  subst hQ
  exact vx_out (fun x hx => (htab x hx).elim) hlk hcell hv hcl (fun t ht _ => ⟨by rw [ht]; exact hp, by rw [ht]; exact ⟨hS.1, hS.2.1⟩⟩) hS.2.2 h1 h2
/-- throw new E("text") -/
theorem thx_throw {own cls text : String} {ik is ic nL : Nat} {lv : List (Nat × Value)} (hexec : p.tables.exec = Jvm.exec) (hb : c.code = cc) (hl0 : l.stackTraces = false) (hml : c.maxLocals = nL) (hown : s.vm.findClass own = some m.cls) (hts : ∀ w ∈ th_G, w.before args s = true) (hl : lv_has ls nL lv) (hlk : meth.locks = false) (hX : th_T A s ∧ s.heap = H0 ∧ ∀ x ∈ c.exceptionTable.toList, False) (hQ : Q = vx_MQ below (th_Q A H0 post) (th_XQ A H0 px) args s mc ms A) (hS : va_S A H0 H locs)
    (hcls : Bundle.fit cls = true) (w1 : Cond.classLink own ik cls ∈ th_G) (w2 : Cond.initialized cls ∈ th_G) (w3 : Cond.stringRef own is text ∈ lw_tbl) (hat : ∀ w ∈ vx_atS own ic cls ["java/lang/RuntimeException", "java/lang/Exception"], w ∈ lw_tbl ∧ (w.onTables && w.keepsFace) = true)
    (d0 : decode cc pc = .ok (.new ik, 3)) (d3 : decode cc (pc + 3) = .ok (.dup, 1)) (d4 : decode cc (pc + 4) = .ok (.ldc is, 2)) (d6 : decode cc (pc + 6) = .ok (.invokespecial ic, 3)) (d9 : decode cc (pc + 9) = .ok (.athrow, 1))
    (hRf : 5 < R.frames) (hRl : (rest.map fun v => v.category).sum + 82 ≤ R.locals) (hRc : cells + 1 ≤ R.cells) (hRs : slots + 6 ≤ R.slots) (h1 : cells + 1 ≤ mc) (h2 : slots + 6 ≤ ms)
    (hp : ∀ H1 : Heap, th_Same th_no H H1 → px cls H1) : W p l e R s m args below meth c H locs cells slots Q (F0 m pc ls rest) := by
  subst hQ
  obtain ⟨hT, hs, htab⟩ := hX
  subst hs
  obtain ⟨t1, t2, t3, t4⟩ := hT
  obtain ⟨sa, hsa⟩ := t3 _ _ _ w3
  have hat2 : ∀ w ∈ vx_atS own ic cls ["java/lang/RuntimeException", "java/lang/Exception"], w.before args s = true := fun w hw => va_Nw.use (by have := (hat w hw).2; simp only [Bool.and_eq_true] at this; exact this.1) (t4.1 w (hat w hw).1 (hat w hw).2)
  refine vx_throwS (A := A) hexec hb hl0 hown hcls (by decide) (hts _ w1) (hts _ w2) hsa hat2 ?_ t1 t2 hS (hl.1.trans hml.symm) d0 d3 d4 d6 d9 (fun x hx => (htab x hx).elim) hRf hRl hRc hRs hlk ?_ hS.2.2 h1 h2
  · intro w hw
    rcases List.mem_cons.mp hw with rfl | hw
    · rfl
    · rcases List.mem_cons.mp hw with rfl | hw
      · rfl
      · have := (hat w hw).2
        simp only [Bool.and_eq_true] at this
        unfold vx_ot
        rw [this.1]; rfl
  · intro t _ hz hq
    exact ⟨hp _ ⟨hz, fun q h _ => hq q h⟩, Nat.le_trans hS.1 hz, fun q h hn => by rw [hq q (Nat.lt_of_lt_of_le h hS.1)]; exact hS.2.1 q h hn⟩
theorem thx_after {a : Array Value} (hr : vx_Run p l e R s m args below meth c H locs cells slots mc ms (F0 m pc ls st0) rest (th_Q A' H post' a) (th_XQ A' H px') A') (hS : va_S A H0 H locs) (hA : ∀ q, A' q → A q)
    (kx : ∀ (E : String) (ce : Cell) (q9 : Nat) (H1 : Heap) (locs1 : List Loc), px' E H1 → th_Same A' H H1 → va_S A H0 H1 locs1 → H1[q9]? = some ce → ce.vm = .none → s.vm.findClass E = some ce.cls → vx_W p l e R s m args below meth c H1 locs1 (cells + mc) (slots + ms) Q (F0 m pc ls rest) q9)
    (kk : ∀ (v : Option Value) (H1 : Heap) (locs1 : List Loc), post' v H1 → th_Same A' H H1 → va_S A H0 H1 locs1 → W p l e R s m args below meth c H1 locs1 (cells + mc) (slots + ms) Q (F0 m (pc + 3) ls (v.toList ++ rest))) : W p l e R s m args below meth c H locs cells slots Q (F0 m pc ls st0) := by
  have key : ∀ (t T' : State) (L : List Loc), T'.heap = t.heap → (∀ q ∈ L, A' q.base) → th_Same A' H t.heap → th_Same A' H T'.heap ∧ va_S A H0 T'.heap (locs ++ L) := fun t T' L e1 hL hsm => ⟨by rw [e1]; exact hsm, ⟨Nat.le_trans hS.1 (by rw [e1]; exact hsm.1), fun q h1 h2 => by rw [e1, hsm.2 q (Nat.lt_of_lt_of_le h1 hS.1) (fun z => h2 (hA q z))]; exact hS.2.1 q h1 h2, fun q hq => (List.mem_append.mp hq).elim (hS.2.2 q) (fun h => hA _ (hL q h))⟩⟩
  intro T hT X
  rcases hr T hT X with ⟨v, st₀, t, T', L, h0, X', hL, e1, e2, ⟨v', hv, hp, hsm⟩, st⟩ | ⟨q, st₀, t, T', L, E, ce, h0, X', hL, e1, e2, ⟨hp, hsm⟩, hce, hcv, hcl, st⟩
  · cases hv
    obtain ⟨g1, g2⟩ := key t T' L e1 hL hsm
    obtain ⟨t2, a1, b1⟩ := kk v T'.heap (locs ++ L) (by rw [e1]; exact hp) g1 g2 T' rfl X'
    exact ⟨t2, st t2 a1, b1⟩
  · obtain ⟨g1, g2⟩ := key t T' L e1 hL hsm
    obtain ⟨t2, a1, b1⟩ := kx E ce q T'.heap (locs ++ L) (by rw [e1]; exact hp) g1 g2 (by rw [e1]; exact hce) hcv hcl T' rfl X'
    exact ⟨t2, st.trans a1, b1⟩
variable {Y : th_Y} {y : MethodName} {cy : ByteArray} {ny k nL idx : Nat} {ret : Option FieldType} {rm : Room} {av : List Value} {own : String} {lv : List (Nat × Value)} {b : Addr}
theorem thx_callS (hexec : p.tables.exec = Jvm.exec) (hb : c.code = cc) (hml : c.maxLocals = nL) (hown : s.vm.findClass own = some m.cls) (hts : ∀ w ∈ th_G, w.before args s = true) (hK : th_K Y s) (hl : lv_has ls nL lv) (hS : va_S A H0 H locs) (hX : th_T A s ∧ s.heap = H0 ∧ ∀ x ∈ c.exceptionTable.toList, False)
    (hC : th_MX l Y y cy ny ret rm av H A' post' px') (ok : th_okS y cy ny ret k) (w1 : Cond.methodLink own idx y ∈ th_G) (hdg : decode cc pc = .ok (.invokestatic idx, 3)) (hst : st0 = av.reverse ++ rest) (hn : av.length = k) (hro : (rest.map fun v => v.category).sum ≤ 8) (hR : rm.frames + 1 ≤ R.frames ∧ 8 + (ny + 11) + rm.locals ≤ R.locals) (hf : cells + rm.cells ≤ R.cells ∧ slots + rm.slots ≤ R.slots) (hA : ∀ q, A' q → A q)
    (kx : ∀ (E : String) (ce : Cell) (q9 : Nat) (H1 : Heap) (locs1 : List Loc), px' E H1 → th_Same A' H H1 → va_S A H0 H1 locs1 → H1[q9]? = some ce → ce.vm = .none → s.vm.findClass E = some ce.cls → vx_W p l e R s m args below meth c H1 locs1 (cells + rm.cells) (slots + rm.slots) Q (F0 m pc ls rest) q9)
    (kk : ∀ (v : Option Value) (H1 : Heap) (locs1 : List Loc), post' v H1 → th_Same A' H H1 → va_S A H0 H1 locs1 → W p l e R s m args below meth c H1 locs1 (cells + rm.cells) (slots + rm.slots) Q (F0 m (pc + 3) ls (v.toList ++ rest))) : W p l e R s m args below meth c H locs cells slots Q (F0 m pc ls st0) := by
  obtain ⟨hT, hs, htab⟩ := hX
  subst hs
  exact thx_after (vx_runS (As := av) (rest := rest) (nL := nL) ⟨hexec, hb, hml, hown, hts⟩ hC ⟨callB_of k hts (th_gin ok.1.1) rfl rfl rfl (hts _ ok.1.2.1) (hts _ w1) ok.1.2.2 hR, hts _ ok.2⟩ ⟨thx_bl, fun U hU hW => ⟨rfl, hU, th_K.warm hW hK, th_T.at hT hW hS hU hA⟩⟩ rfl hn hl.1 hst (lv_room hro) hdg hf) hS hA kx kk
theorem thx_callV {ci : Nat} {fs : List Value} {T : u_T} {N : Nat} (hexec : p.tables.exec = Jvm.exec) (hb : c.code = cc) (hml : c.maxLocals = nL) (hown : s.vm.findClass own = some m.cls) (hts : ∀ w ∈ th_G, w.before args s = true) (hK : th_K Y s) (hl : lv_has ls nL lv) (hS : va_S A H0 H locs) (hX : th_T A s ∧ s.heap = H0 ∧ ∀ x ∈ c.exceptionTable.toList, False)
    (hB : va_at Y.1 vwCl (b, .inr (ci, fs)) H) (hci : vwCl[ci]? = some (y.cls, T, N))
    (hC : th_MX l Y y cy ny ret rm (.ref b :: av) H A' post' px') (ok : th_okV y cy ny ret k) (w1 : Cond.methodLink own idx y ∈ th_G) (hdg : decode cc pc = .ok (.invokevirtual idx, 3)) (hst : st0 = av.reverse ++ .ref b :: rest) (hn : av.length = k) (hro : (rest.map fun v => v.category).sum ≤ 8) (hR : rm.frames + 1 ≤ R.frames ∧ 8 + (ny + 11) + rm.locals ≤ R.locals) (hf : cells + rm.cells ≤ R.cells ∧ slots + rm.slots ≤ R.slots) (hA : ∀ q, A' q → A q)
    (kx : ∀ (E : String) (ce : Cell) (q9 : Nat) (H1 : Heap) (locs1 : List Loc), px' E H1 → th_Same A' H H1 → va_S A H0 H1 locs1 → H1[q9]? = some ce → ce.vm = .none → s.vm.findClass E = some ce.cls → vx_W p l e R s m args below meth c H1 locs1 (cells + rm.cells) (slots + rm.slots) Q (F0 m pc ls rest) q9)
    (kk : ∀ (v : Option Value) (H1 : Heap) (locs1 : List Loc), post' v H1 → th_Same A' H H1 → va_S A H0 H1 locs1 → W p l e R s m args below meth c H1 locs1 (cells + rm.cells) (slots + rm.slots) Q (F0 m (pc + 3) ls (v.toList ++ rest))) : W p l e R s m args below meth c H locs cells slots Q (F0 m pc ls st0) := by
  obtain ⟨hT, hs, htab⟩ := hX
  subst hs
  refine thx_after (vx_runV (C := y.cls) (As := av) (rest := rest) (nL := nL) ⟨hexec, hb, hml, hown, hts⟩ hC ⟨callB_of k hts (th_gin ok.1.1) rfl rfl rfl (hts _ ok.1.2.1) (hts _ w1) ok.1.2.2 hR, hts _ ok.2.1, hts _ ok.2.2⟩ ⟨thx_bl, ?_, fun U hU hW => ⟨rfl, hU, th_K.warm hW hK, th_T.at hT hW hS hU hA⟩⟩ rfl hn hl.1 hst (lv_room hro) hdg hf) hS hA kx kk
  obtain ⟨r, h1, cell, q1, q2, q3, -⟩ := hB
  have hr : r = (y.cls, T, N) := Option.some.inj (h1.symm.trans hci)
  subst hr
  exact ⟨cell, q1, by rw [q3]; rfl, by rw [q2]; exact (hK.1.1 ci _ hci).2.1⟩
end
theorem th_at0 : ∀ w ∈ vx_atS RX5 76 "java/lang/IndexOutOfBoundsException" ["java/lang/RuntimeException", "java/lang/Exception"], w ∈ lw_tbl ∧ (w.onTables && w.keepsFace) = true := by decide +kernel
theorem th_at1 : ∀ w ∈ vx_atS RX5 172 "java/lang/IllegalArgumentException" ["java/lang/RuntimeException", "java/lang/Exception"], w ∈ lw_tbl ∧ (w.onTables && w.keepsFace) = true := by decide +kernel
theorem th_at2 : ∀ w ∈ vx_atS RX5 65 "java/lang/IllegalStateException" ["java/lang/RuntimeException", "java/lang/Exception"], w ∈ lw_tbl ∧ (w.onTables && w.keepsFace) = true := by decide +kernel

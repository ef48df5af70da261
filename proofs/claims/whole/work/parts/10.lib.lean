/-! own rows: a world is told by its heap; contracts that return (th_M), that return or throw (th_MX) -/
abbrev th_Y : Type := va_G × (Nat → ClassId)
abbrev th_tys (Y : th_Y) : List (ClassId × FieldType) := [(Y.2 0, .int), (Y.2 1, .boolean), (Y.2 2, .object "TreeheadGallery$View"), (Y.2 3, .object "TreeheadGallery$Watcher"), (Y.2 4, .long)]
abbrev th_k (Y : th_Y) (U : State) : Prop := va_K Y.1 vwCl (th_tys Y) U
abbrev th_K (Y : th_Y) (U : State) : Prop := th_k Y U ∧ th_N U
theorem th_K.warm {Y : th_Y} {s U : State} (hW : s.WarmedH U.vm) (h : th_K Y s) : th_K Y U := ⟨va_K.moved hW.alike h.1, h.2.warm hW⟩
def th_Same (A : Nat → Prop) (H0 H : Heap) : Prop := H0.size ≤ H.size ∧ ∀ q : Nat, q < H0.size → ¬ A q → H[q]? = H0[q]?
def th_ws (y : MethodName) (cc : ByteArray) (n : Nat) (ret : Option FieldType) : List Cond := Cond.code y cc n ret :: th_G
def th_Q (A : Nat → Prop) (H0 : Heap) (post : Option Value → Heap → Prop) : Array Value → State → Outcome → State → Prop := fun _ _ o t => ∃ v : Option Value, o = .returned v ∧ post v t.heap ∧ th_Same A H0 t.heap
def th_M (l : Launch) (Y : th_Y) (y : MethodName) (cc : ByteArray) (n : Nat) (ret : Option FieldType) (rm : Room) (av : List Value) (H0 : Heap) (A : Nat → Prop) (post : Option Value → Heap → Prop) : Prop :=
  Met l y (th_ws y cc n ret) rm (va_Pc av (fun U => U.heap = H0 ∧ th_K Y U)) (th_Q A H0 post) rm.cells rm.slots A
def th_C (p : Program) (s : State) (m : MethodId) (meth : Method) (c : Code) (args : Array Value) (y : MethodName) (cc : ByteArray) (n : Nat) (ret : Option FieldType) : Prop :=
  p.tables.exec = Jvm.exec ∧ c.code = cc ∧ meth.sig.returnType = ret ∧ c.maxLocals = n ∧ s.vm.findClass y.cls = some m.cls ∧ (∀ w ∈ th_G, w.before args s = true) ∧ meth.locks = false ∧ meth.name = y.name
theorem th_M.intro {l : Launch} {Y : th_Y} {y : MethodName} {cc : ByteArray} {n : Nat} {ret : Option FieldType} {rm : Room} {av : List Value} {H0 : Heap} {A : Nat → Prop} {post : Option Value → Heap → Prop} (hy : plainName y.cls = true) (hn : (lg_sl av).length ≤ n)
    (body : ∀ (p : Program) (e : Env) (s : State) (m : MethodId) (args : Array Value) (below : List Frame) (meth : Method) (c : Code) (ls : Array Slot) (Q : State → Prop), Q = MQ below (th_Q A H0 post) args s rm.cells rm.slots A → th_C p s m meth c args y cc n ret → th_K Y s → lv_has ls n (lv_args 0 av) → va_S A H0 H0 [] →
      W p l e rm s m args below meth c H0 [] 0 0 Q (F0 m 0 ls [])) : th_M l Y y cc n ret rm av H0 A post := by
  refine Met.ofW (cc := cc) (maxL := n) (ret := ret) hy rfl ?_
  intro p e s m args below meth c s₁ B hml hv
  obtain ⟨rfl, hs, hK⟩ := hv
  have hts : ∀ w ∈ th_ws y cc n ret, w.before av.toArray s = true := atoms_spec (ws := th_ws y cc n ret) B.pre
  have h := body p e s m av.toArray below meth c _ _ rfl ⟨B.exec, B.bytes, B.returns, hml, findClass_of_methodNamed B.named, fun w hw => hts w (List.mem_cons_of_mem _ hw), B.notSynchronized, (name_of_methodNamed B.named B.method).1⟩ hK (lv_entry av hn) va_S.rf
  rw [lg_entry_eq, hs]
  exact h
def th_ok (y : MethodName) (cc : ByteArray) (n : Nat) (ret : Option FieldType) (k : Nat) : Prop :=
  Cond.code y cc n ret ∈ th_G ∧ Cond.initialized y.cls ∈ th_G ∧ (y.cls ≠ "java/lang/invoke/MethodHandle" ∧ y.cls ≠ "java/lang/invoke/VarHandle" ∧ (parseMethodDescriptor y.desc).map (fun d => d.parameters.length) = some k)
def th_okV (y : MethodName) (cc : ByteArray) (n : Nat) (ret : Option FieldType) (k : Nat) : Prop := th_ok y cc n ret k ∧ Cond.instanceMethod y ∈ th_G ∧ Cond.selects y.cls y y ∈ th_G
def th_okS (y : MethodName) (cc : ByteArray) (n : Nat) (ret : Option FieldType) (k : Nat) : Prop := th_ok y cc n ret k ∧ Cond.static y ∈ th_G
def th_okI (y : MethodName) (cc : ByteArray) (n : Nat) (k : Nat) : Prop := th_ok y cc n none k ∧ Cond.instanceMethod y ∈ th_G ∧ y.name = "<init>"
theorem th_gin {y : MethodName} {cc : ByteArray} {n : Nat} {ret : Option FieldType} (h : Cond.code y cc n ret ∈ th_G) : GoodIn th_G (th_ws y cc n ret) := fun w hw => by
  have hm : w ∈ th_G := (List.mem_cons.mp hw).elim (fun e => by rw [e]; exact h) id
  exact ⟨hm, good_of_word (th_good w hm)⟩
theorem th_bl {av : List Value} {H0 : Heap} {Y : th_Y} : FrameBlind (va_Pc av (fun U => U.heap = H0 ∧ th_K Y U)) := fun a U g mk q => ⟨q.1, q.2.1, th_K.warm (s := U) (U := U.calling g mk a) (State.WarmedH.refl U) q.2.2⟩
section
variable {p : Program} {l : Launch} {e : Env} {R : Room} {s : State} {m : MethodId} {args : Array Value} {below : List Frame} {meth : Method} {c : Code} {H : Heap} {locs : List Loc} {cells slots : Nat} {Q : State → Prop}
variable {cc : ByteArray} {pc : Nat} {ls : Array Slot} {rest st0 : List Value} {A A' : Nat → Prop} {H0 : Heap} {post post' : Option Value → Heap → Prop} {mc ms : Nat}
theorem th_iret {v : Int32} (hexec : p.tables.exec = Jvm.exec) (hb : c.code = cc) (hr : meth.sig.returnType = some .int) (hlk : meth.locks = false) (hQ : Q = MQ below (th_Q A H0 post) args s mc ms A) (hS : va_S A H0 H locs) (hdg : decode cc pc = .ok (.ireturn, 1)) (h1 : cells ≤ mc) (h2 : slots ≤ ms) (hp : post (some (.int v)) H) : W p l e R s m args below meth c H locs cells slots Q (F0 m pc ls [.int v]) := by
  subst hQ
  exact W.widen h1 h2 (W.iret hexec hb hr (fun t ht _ => ⟨_, rfl, by rw [ht]; exact hp, by rw [ht]; exact ⟨hS.1, hS.2.1⟩⟩) hS.2.2 hdg hlk)
theorem th_zret {v : Int32} (hexec : p.tables.exec = Jvm.exec) (hb : c.code = cc) (hr : meth.sig.returnType = some .boolean) (hlk : meth.locks = false) (hQ : Q = MQ below (th_Q A H0 post) args s mc ms A) (hS : va_S A H0 H locs) (hdg : decode cc pc = .ok (.ireturn, 1)) (h1 : cells ≤ mc) (h2 : slots ≤ ms) (hv : v = 0 ∨ v = 1) (hp : post (some (.int v)) H) : W p l e R s m args below meth c H locs cells slots Q (F0 m pc ls [.int v]) := by
  subst hQ
  exact W.widen h1 h2 (W.zret hexec hb hr (by rcases hv with rfl | rfl <;> rfl) (fun t ht _ => ⟨_, rfl, by rw [ht]; exact hp, by rw [ht]; exact ⟨hS.1, hS.2.1⟩⟩) hS.2.2 hdg hlk)
theorem th_vret (hexec : p.tables.exec = Jvm.exec) (hb : c.code = cc) (hr : meth.sig.returnType = none) (hlk : meth.locks = false) (hQ : Q = MQ below (th_Q A H0 post) args s mc ms A) (hS : va_S A H0 H locs) (hdg : decode cc pc = .ok (.return_, 1)) (h1 : cells ≤ mc) (h2 : slots ≤ ms) (hp : post none H) : W p l e R s m args below meth c H locs cells slots Q (F0 m pc ls []) := by
  subst hQ
  exact W.widen h1 h2 (W.vret hexec hb hr (fun t ht _ => ⟨_, rfl, by rw [ht]; exact hp, by rw [ht]; exact ⟨hS.1, hS.2.1⟩⟩) hS.2.2 hdg hlk)
theorem th_aret {a : Nat} {rn : String} (hexec : p.tables.exec = Jvm.exec) (hb : c.code = cc) (hr : meth.sig.returnType = some (.object rn)) (hlk : meth.locks = false) (hQ : Q = MQ below (th_Q A H0 post) args s mc ms A) (hS : va_S A H0 H locs) (hdg : decode cc pc = .ok (.areturn, 1)) (h1 : cells ≤ mc) (h2 : slots ≤ ms) (hp : post (some (.ref a)) H) : W p l e R s m args below meth c H locs cells slots Q (F0 m pc ls [.ref a]) := by
  subst hQ
  exact W.widen h1 h2 (W.aret hexec hb hr (Or.inl ⟨_, rfl⟩) (Or.inr ⟨_, rfl⟩) (fun t ht _ => ⟨_, rfl, by rw [ht]; exact hp, by rw [ht]; exact ⟨hS.1, hS.2.1⟩⟩) hS.2.2 hdg hlk)
/-- a computed number on top gets another name -/
theorem th_ti {x y : Int32} (h : x = y) (k : W p l e R s m args below meth c H locs cells slots Q (F0 m pc ls (.int y :: rest))) : W p l e R s m args below meth c H locs cells slots Q (F0 m pc ls (.int x :: rest)) := h ▸ k
theorem th_after {a : Array Value} (hr : va_Run p l e R s m args below meth c H locs cells slots mc ms (F0 m pc ls st0) rest (th_Q A' H post' a) A') (hS : va_S A H0 H locs) (hA : ∀ q, A' q → A q)
    (kk : ∀ (v : Option Value) (H1 : Heap) (locs1 : List Loc), post' v H1 → th_Same A' H H1 → va_S A H0 H1 locs1 → W p l e R s m args below meth c H1 locs1 (cells + mc) (slots + ms) Q (F0 m (pc + 3) ls (v.toList ++ rest))) : W p l e R s m args below meth c H locs cells slots Q (F0 m pc ls st0) := by
  intro T hT X
  obtain ⟨v, st₀, t, T', L, h0, X', hL, e1, e2, ⟨v', hv, hp, hsm⟩, st⟩ := hr T hT X
  cases hv
  obtain ⟨t2, a1, b1⟩ := kk v T'.heap (locs ++ L) (by rw [e1]; exact hp) (by rw [e1]; exact hsm) ⟨Nat.le_trans hS.1 (by rw [e1]; exact hsm.1), fun q h1 h2 => by rw [e1, hsm.2 q (Nat.lt_of_lt_of_le h1 hS.1) (fun z => h2 (hA q z))]; exact hS.2.1 q h1 h2, fun q hq => (List.mem_append.mp hq).elim (hS.2.2 q) (fun h => hA _ (hL q h))⟩ T' rfl X'
  exact ⟨t2, st t2 a1, b1⟩
variable {Y : th_Y} {y : MethodName} {cy : ByteArray} {ny k nL idx : Nat} {ret : Option FieldType} {rm : Room} {av : List Value} {own : String} {lv : List (Nat × Value)} {b : Addr}
theorem th_callS (hexec : p.tables.exec = Jvm.exec) (hb : c.code = cc) (hml : c.maxLocals = nL) (hown : s.vm.findClass own = some m.cls) (hts : ∀ w ∈ th_G, w.before args s = true) (hK : th_K Y s) (hl : lv_has ls nL lv) (hS : va_S A H0 H locs)
    (hC : th_M l Y y cy ny ret rm av H A' post') (ok : th_okS y cy ny ret k) (w1 : Cond.methodLink own idx y ∈ th_G) (hdg : decode cc pc = .ok (.invokestatic idx, 3)) (hst : st0 = av.reverse ++ rest) (hn : av.length = k) (hro : (rest.map fun v => v.category).sum ≤ 8) (hR : rm.frames + 1 ≤ R.frames ∧ 8 + (ny + 11) + rm.locals ≤ R.locals) (hf : cells + rm.cells ≤ R.cells ∧ slots + rm.slots ≤ R.slots) (hA : ∀ q, A' q → A q)
    (kk : ∀ (v : Option Value) (H1 : Heap) (locs1 : List Loc), post' v H1 → th_Same A' H H1 → va_S A H0 H1 locs1 → W p l e R s m args below meth c H1 locs1 (cells + rm.cells) (slots + rm.slots) Q (F0 m (pc + 3) ls (v.toList ++ rest))) : W p l e R s m args below meth c H locs cells slots Q (F0 m pc ls st0) :=
  th_after (va_runS (As := av) (rest := rest) (nL := nL) ⟨hexec, hb, hml, hown, hts⟩ hC ⟨callB_of k hts (th_gin ok.1.1) rfl rfl rfl (hts _ ok.1.2.1) (hts _ w1) ok.1.2.2 hR, hts _ ok.2⟩ ⟨th_bl, fun U hU hW => ⟨rfl, hU, th_K.warm hW hK⟩⟩ rfl hn hl.1 hst (lv_room hro) hdg hf) hS hA kk
theorem th_callV {ci : Nat} {fs : List Value} {T : u_T} {N : Nat} (hexec : p.tables.exec = Jvm.exec) (hb : c.code = cc) (hml : c.maxLocals = nL) (hown : s.vm.findClass own = some m.cls) (hts : ∀ w ∈ th_G, w.before args s = true) (hK : th_K Y s) (hl : lv_has ls nL lv) (hS : va_S A H0 H locs)
    (hB : va_at Y.1 vwCl (b, .inr (ci, fs)) H) (hci : vwCl[ci]? = some (y.cls, T, N))
    (hC : th_M l Y y cy ny ret rm (.ref b :: av) H A' post') (ok : th_okV y cy ny ret k) (w1 : Cond.methodLink own idx y ∈ th_G) (hdg : decode cc pc = .ok (.invokevirtual idx, 3)) (hst : st0 = av.reverse ++ .ref b :: rest) (hn : av.length = k) (hro : (rest.map fun v => v.category).sum ≤ 8) (hR : rm.frames + 1 ≤ R.frames ∧ 8 + (ny + 11) + rm.locals ≤ R.locals) (hf : cells + rm.cells ≤ R.cells ∧ slots + rm.slots ≤ R.slots) (hA : ∀ q, A' q → A q)
    (kk : ∀ (v : Option Value) (H1 : Heap) (locs1 : List Loc), post' v H1 → th_Same A' H H1 → va_S A H0 H1 locs1 → W p l e R s m args below meth c H1 locs1 (cells + rm.cells) (slots + rm.slots) Q (F0 m (pc + 3) ls (v.toList ++ rest))) : W p l e R s m args below meth c H locs cells slots Q (F0 m pc ls st0) := by
  refine th_after (va_runV (C := y.cls) (As := av) (rest := rest) (nL := nL) ⟨hexec, hb, hml, hown, hts⟩ hC ⟨callB_of k hts (th_gin ok.1.1) rfl rfl rfl (hts _ ok.1.2.1) (hts _ w1) ok.1.2.2 hR, hts _ ok.2.1, hts _ ok.2.2⟩ ⟨th_bl, ?_, fun U hU hW => ⟨rfl, hU, th_K.warm hW hK⟩⟩ rfl hn hl.1 hst (lv_room hro) hdg hf) hS hA kk
  obtain ⟨r, h1, cell, q1, q2, q3, -⟩ := hB
  have hr : r = (y.cls, T, N) := Option.some.inj (h1.symm.trans hci)
  subst hr
  exact ⟨cell, q1, by rw [q3]; rfl, by rw [q2]; exact (hK.1.1 ci _ hci).2.1⟩
theorem th_callI (hexec : p.tables.exec = Jvm.exec) (hb : c.code = cc) (hml : c.maxLocals = nL) (hown : s.vm.findClass own = some m.cls) (hts : ∀ w ∈ th_G, w.before args s = true) (hK : th_K Y s) (hl : lv_has ls nL lv) (hS : va_S A H0 H locs)
    (hC : th_M l Y y cy ny none rm (.ref b :: av) H A' post') (ok : th_okI y cy ny k) (w1 : Cond.methodLink own idx y ∈ th_G) (hdg : decode cc pc = .ok (.invokespecial idx, 3)) (hst : st0 = av.reverse ++ .ref b :: rest) (hn : av.length = k) (hro : (rest.map fun v => v.category).sum ≤ 8) (hR : rm.frames + 1 ≤ R.frames ∧ 8 + (ny + 11) + rm.locals ≤ R.locals) (hf : cells + rm.cells ≤ R.cells ∧ slots + rm.slots ≤ R.slots) (hA : ∀ q, A' q → A q)
    (kk : ∀ (v : Option Value) (H1 : Heap) (locs1 : List Loc), post' v H1 → th_Same A' H H1 → va_S A H0 H1 locs1 → W p l e R s m args below meth c H1 locs1 (cells + rm.cells) (slots + rm.slots) Q (F0 m (pc + 3) ls (v.toList ++ rest))) : W p l e R s m args below meth c H locs cells slots Q (F0 m pc ls st0) :=
  th_after (va_runI (As := av) (rest := rest) (nL := nL) ⟨hexec, hb, hml, hown, hts⟩ hC ⟨callB_of k hts (th_gin ok.1.1) rfl rfl rfl (hts _ ok.1.2.1) (hts _ w1) ok.1.2.2 hR, ok.2.2, hts _ ok.2.1⟩ ⟨th_bl, fun U hU hW => ⟨rfl, hU, th_K.warm hW hK⟩⟩ rfl hn hl.1 hst (lv_room hro) hdg hf) hS hA kk
theorem th_callSN {host : String} (hexec : p.tables.exec = Jvm.exec) (hb : c.code = cc) (hml : c.maxLocals = nL) (hown : s.vm.findClass own = some m.cls) (hts : ∀ w ∈ th_G, w.before args s = true) (hK : th_K Y s) (hl : lv_has ls nL lv) (hS : va_S A H0 H locs)
    (hC : th_M l Y y cy ny ret rm av H A' post') (ok : th_okS y cy ny ret k) (w1 : va_Nw (.methodLinkNest own idx y host) s) (hdg : decode cc pc = .ok (.invokestatic idx, 3)) (hst : st0 = av.reverse ++ rest) (hn : av.length = k) (hro : (rest.map fun v => v.category).sum ≤ 8) (hR : rm.frames + 1 ≤ R.frames ∧ 8 + (ny + 11) + rm.locals ≤ R.locals) (hf : cells + rm.cells ≤ R.cells ∧ slots + rm.slots ≤ R.slots) (hA : ∀ q, A' q → A q)
    (kk : ∀ (v : Option Value) (H1 : Heap) (locs1 : List Loc), post' v H1 → th_Same A' H H1 → va_S A H0 H1 locs1 → W p l e R s m args below meth c H1 locs1 (cells + rm.cells) (slots + rm.slots) Q (F0 m (pc + 3) ls (v.toList ++ rest))) : W p l e R s m args below meth c H locs cells slots Q (F0 m pc ls st0) :=
  th_after (va_runSN (As := av) (rest := rest) (nL := nL) ⟨hexec, hb, hml, hown, hts⟩ hC ⟨va_cnB k hts (th_gin ok.1.1) rfl rfl rfl w1 (hts _ ok.1.2.1) ok.1.2.2 hR, hts _ ok.2, trivial⟩ ⟨th_bl, fun U hU hW => ⟨rfl, hU, th_K.warm hW hK⟩⟩ rfl hn hl.1 hst (lv_room hro) hdg hf) hS hA kk
theorem th_callIN {host : String} (hexec : p.tables.exec = Jvm.exec) (hb : c.code = cc) (hml : c.maxLocals = nL) (hown : s.vm.findClass own = some m.cls) (hts : ∀ w ∈ th_G, w.before args s = true) (hK : th_K Y s) (hl : lv_has ls nL lv) (hS : va_S A H0 H locs)
    (hC : th_M l Y y cy ny none rm (.ref b :: av) H A' post') (ok : th_okI y cy ny k) (w1 : va_Nw (.methodLinkNest own idx y host) s) (hdg : decode cc pc = .ok (.invokespecial idx, 3)) (hst : st0 = av.reverse ++ .ref b :: rest) (hn : av.length = k) (hro : (rest.map fun v => v.category).sum ≤ 8) (hR : rm.frames + 1 ≤ R.frames ∧ 8 + (ny + 11) + rm.locals ≤ R.locals) (hf : cells + rm.cells ≤ R.cells ∧ slots + rm.slots ≤ R.slots) (hA : ∀ q, A' q → A q)
    (kk : ∀ (v : Option Value) (H1 : Heap) (locs1 : List Loc), post' v H1 → th_Same A' H H1 → va_S A H0 H1 locs1 → W p l e R s m args below meth c H1 locs1 (cells + rm.cells) (slots + rm.slots) Q (F0 m (pc + 3) ls (v.toList ++ rest))) : W p l e R s m args below meth c H locs cells slots Q (F0 m pc ls st0) :=
  th_after (va_runIN (As := av) (rest := rest) (nL := nL) ⟨hexec, hb, hml, hown, hts⟩ hC ⟨va_cnB k hts (th_gin ok.1.1) rfl rfl rfl w1 (hts _ ok.1.2.1) ok.1.2.2 hR, ok.2.2, hts _ ok.2.1⟩ ⟨th_bl, fun U hU hW => ⟨rfl, hU, th_K.warm hW hK⟩⟩ rfl hn hl.1 hst (lv_room hro) hdg hf) hS hA kk
end
/-- a world's cells: apart, and only they may change -/
theorem th_mem {B : Nat → Prop} {ws : va_W} (h : va_D B ws) : va_D (fun q => q ∈ ws.map (fun z => z.1)) ws := ⟨h.1, fun k q hk => List.mem_map.mpr ⟨q, List.mem_of_getElem? hk, rfl⟩⟩
abbrev th_no : Nat → Prop := fun _ => False
section
variable {p : Program} {l : Launch} {e : Env} {R : Room} {s : State} {m : MethodId} {args : Array Value} {below : List Frame} {meth : Method} {c : Code} {H : Heap} {locs : List Loc} {cells slots : Nat} {Q : State → Prop}
variable {cc : ByteArray} {pc : Nat} {ls : Array Slot} {rest : List Value} {off : Int} {tgt : Nat} {a b : Nat}
theorem th_ilt (hexec : p.tables.exec = Jvm.exec) (hb : c.code = cc) (hdg : decode cc pc = .ok (.if_icmp .lt off, 3)) (ht : (pc : Int) + off = (tgt : Int)) (h1 : a < 2147483648) (h2 : b < 2147483648)
    (kt : a < b → W p l e R s m args below meth c H locs cells slots Q (F0 m tgt ls rest)) (kf : b ≤ a → W p l e R s m args below meth c H locs cells slots Q (F0 m (pc + 3) ls rest)) : W p l e R s m args below meth c H locs cells slots Q (F0 m pc ls (.int (nI b) :: .int (nI a) :: rest)) :=
  lv_icmp_lt hexec hb hdg ht (fun c => kt ((nI_ltI h1 h2).mp c)) (fun c => kf (Nat.le_of_not_lt fun h => c ((nI_ltI h1 h2).mpr h)))
theorem th_ige (hexec : p.tables.exec = Jvm.exec) (hb : c.code = cc) (hdg : decode cc pc = .ok (.if_icmp .ge off, 3)) (ht : (pc : Int) + off = (tgt : Int)) (h1 : a < 2147483648) (h2 : b < 2147483648)
    (kt : b ≤ a → W p l e R s m args below meth c H locs cells slots Q (F0 m tgt ls rest)) (kf : a < b → W p l e R s m args below meth c H locs cells slots Q (F0 m (pc + 3) ls rest)) : W p l e R s m args below meth c H locs cells slots Q (F0 m pc ls (.int (nI b) :: .int (nI a) :: rest)) :=
  lv_icmp_ge hexec hb hdg ht (fun c => kt ((nI_leI h2 h1).mp c)) (fun c => kf (Nat.lt_of_not_le fun h => c ((nI_leI h2 h1).mpr h)))
theorem th_igt (hexec : p.tables.exec = Jvm.exec) (hb : c.code = cc) (hdg : decode cc pc = .ok (.if_icmp .gt off, 3)) (ht : (pc : Int) + off = (tgt : Int)) (h1 : a < 2147483648) (h2 : b < 2147483648)
    (kt : b < a → W p l e R s m args below meth c H locs cells slots Q (F0 m tgt ls rest)) (kf : a ≤ b → W p l e R s m args below meth c H locs cells slots Q (F0 m (pc + 3) ls rest)) : W p l e R s m args below meth c H locs cells slots Q (F0 m pc ls (.int (nI b) :: .int (nI a) :: rest)) :=
  lv_icmp_gt hexec hb hdg ht (fun c => kt ((nI_ltI h2 h1).mp c)) (fun c => kf (Nat.le_of_not_lt fun h => c ((nI_ltI h2 h1).mpr h)))
theorem th_ile (hexec : p.tables.exec = Jvm.exec) (hb : c.code = cc) (hdg : decode cc pc = .ok (.if_icmp .le off, 3)) (ht : (pc : Int) + off = (tgt : Int)) (h1 : a < 2147483648) (h2 : b < 2147483648)
    (kt : a ≤ b → W p l e R s m args below meth c H locs cells slots Q (F0 m tgt ls rest)) (kf : b < a → W p l e R s m args below meth c H locs cells slots Q (F0 m (pc + 3) ls rest)) : W p l e R s m args below meth c H locs cells slots Q (F0 m pc ls (.int (nI b) :: .int (nI a) :: rest)) :=
  lv_icmp_le hexec hb hdg ht (fun c => kt ((nI_leI h1 h2).mp c)) (fun c => kf (Nat.lt_of_not_le fun h => c ((nI_leI h1 h2).mpr h)))
theorem th_ieq (hexec : p.tables.exec = Jvm.exec) (hb : c.code = cc) (hdg : decode cc pc = .ok (.if_icmp .eq off, 3)) (ht : (pc : Int) + off = (tgt : Int)) (h1 : a < 2147483648) (h2 : b < 2147483648)
    (kt : a = b → W p l e R s m args below meth c H locs cells slots Q (F0 m tgt ls rest)) (kf : a ≠ b → W p l e R s m args below meth c H locs cells slots Q (F0 m (pc + 3) ls rest)) : W p l e R s m args below meth c H locs cells slots Q (F0 m pc ls (.int (nI b) :: .int (nI a) :: rest)) :=
  lv_icmp_eq hexec hb hdg ht (fun c => kt ((nI_eq h1 h2).mp c)) (fun c => kf (fun h => c ((nI_eq h1 h2).mpr h)))
theorem th_ine (hexec : p.tables.exec = Jvm.exec) (hb : c.code = cc) (hdg : decode cc pc = .ok (.if_icmp .ne off, 3)) (ht : (pc : Int) + off = (tgt : Int)) (h1 : a < 2147483648) (h2 : b < 2147483648)
    (kt : a ≠ b → W p l e R s m args below meth c H locs cells slots Q (F0 m tgt ls rest)) (kf : a = b → W p l e R s m args below meth c H locs cells slots Q (F0 m (pc + 3) ls rest)) : W p l e R s m args below meth c H locs cells slots Q (F0 m pc ls (.int (nI b) :: .int (nI a) :: rest)) :=
  lv_icmp_ne hexec hb hdg ht (fun c => kt (fun h => c ((nI_eq h1 h2).mpr h))) (fun c => kf ((nI_eq h1 h2).mp c))
theorem th_zeq (hexec : p.tables.exec = Jvm.exec) (hb : c.code = cc) (hdg : decode cc pc = .ok (.ifCond .eq off, 3)) (ht : (pc : Int) + off = (tgt : Int)) (h1 : a < 2147483648)
    (kt : a = 0 → W p l e R s m args below meth c H locs cells slots Q (F0 m tgt ls rest)) (kf : a ≠ 0 → W p l e R s m args below meth c H locs cells slots Q (F0 m (pc + 3) ls rest)) : W p l e R s m args below meth c H locs cells slots Q (F0 m pc ls (.int (nI a) :: rest)) :=
  lv_if_eq hexec hb hdg ht (fun c => kt ((nI_eq h1 (by decide)).mp c)) (fun c => kf (fun h => c ((nI_eq h1 (b := 0) (by decide)).mpr h)))
theorem th_zne (hexec : p.tables.exec = Jvm.exec) (hb : c.code = cc) (hdg : decode cc pc = .ok (.ifCond .ne off, 3)) (ht : (pc : Int) + off = (tgt : Int)) (h1 : a < 2147483648)
    (kt : a ≠ 0 → W p l e R s m args below meth c H locs cells slots Q (F0 m tgt ls rest)) (kf : a = 0 → W p l e R s m args below meth c H locs cells slots Q (F0 m (pc + 3) ls rest)) : W p l e R s m args below meth c H locs cells slots Q (F0 m pc ls (.int (nI a) :: rest)) :=
  lv_if_ne hexec hb hdg ht (fun c => kt (fun h => c ((nI_eq h1 (b := 0) (by decide)).mpr h))) (fun c => kf ((nI_eq h1 (by decide)).mp c))
/-- a number that isn't negative is never below 0 -/
theorem th_zlt (hexec : p.tables.exec = Jvm.exec) (hb : c.code = cc) (hdg : decode cc pc = .ok (.ifCond .lt off, 3)) (ht : (pc : Int) + off = (tgt : Int)) (h1 : a < 2147483648)
    (kf : W p l e R s m args below meth c H locs cells slots Q (F0 m (pc + 3) ls rest)) : W p l e R s m args below meth c H locs cells slots Q (F0 m pc ls (.int (nI a) :: rest)) :=
  lv_if_lt hexec hb hdg ht (fun c => absurd c (nI_pos h1)) (fun _ => kf)
theorem th_zle (hexec : p.tables.exec = Jvm.exec) (hb : c.code = cc) (hdg : decode cc pc = .ok (.ifCond .le off, 3)) (ht : (pc : Int) + off = (tgt : Int)) (h1 : a < 2147483648)
    (kt : a = 0 → W p l e R s m args below meth c H locs cells slots Q (F0 m tgt ls rest)) (kf : 0 < a → W p l e R s m args below meth c H locs cells slots Q (F0 m (pc + 3) ls rest)) : W p l e R s m args below meth c H locs cells slots Q (F0 m pc ls (.int (nI a) :: rest)) :=
  lv_if_le hexec hb hdg ht (fun c => kt (Nat.le_zero.mp ((nI_leI h1 (b := 0) (by decide)).mp c))) (fun c => kf (Nat.pos_of_ne_zero fun h => c ((nI_leI h1 (b := 0) (by decide)).mpr (Nat.le_of_eq h))))
theorem th_zge (hexec : p.tables.exec = Jvm.exec) (hb : c.code = cc) (hdg : decode cc pc = .ok (.ifCond .ge off, 3)) (ht : (pc : Int) + off = (tgt : Int)) (h1 : a < 2147483648)
    (kt : W p l e R s m args below meth c H locs cells slots Q (F0 m tgt ls rest)) : W p l e R s m args below meth c H locs cells slots Q (F0 m pc ls (.int (nI a) :: rest)) :=
  lv_if_ge hexec hb hdg ht (fun _ => kt) (fun c => absurd (nI_pos' h1) c)
theorem th_ione : (-1 : Int32) = -1 := rfl
variable {Y : th_Y} {ws : va_W} {A : Nat → Prop} {H0 : Heap} {n j q0 : Nat} {f : Nat → Int32}
theorem th_iald (hexec : p.tables.exec = Jvm.exec) (hb : c.code = cc) (hK : th_k Y s) (hP : va_P Y.1 vwCl ws H) (q0 : Nat) (ha : ws[q0]? = some (a, .inl (Y.2 0, n, .inl f))) (hj : j < n) (hn : n < 2147483648) (hdg : decode cc pc = .ok (.iaload, 1))
    (kk : W p l e R s m args below meth c H locs cells slots Q (F0 m (pc + 1) ls (.int (f j) :: rest))) : W p l e R s m args below meth c H locs cells slots Q (F0 m pc ls (.int (nI j) :: .ref a :: rest)) :=
  va_iald hexec hb hK hP q0 0 ha rfl (vp_in_nI hj hn) hdg (by rw [nI_clamp (by omega)]; exact kk)
theorem th_zald (hexec : p.tables.exec = Jvm.exec) (hb : c.code = cc) (hK : th_k Y s) (hP : va_P Y.1 vwCl ws H) (q0 : Nat) (ha : ws[q0]? = some (a, .inl (Y.2 1, n, .inl f))) (hj : j < n) (hn : n < 2147483648) (hdg : decode cc pc = .ok (.baload, 1))
    (kk : W p l e R s m args below meth c H locs cells slots Q (F0 m (pc + 1) ls (.int (f j) :: rest))) : W p l e R s m args below meth c H locs cells slots Q (F0 m pc ls (.int (nI j) :: .ref a :: rest)) :=
  va_zald hexec hb hK hP q0 1 ha rfl (vp_in_nI hj hn) hdg (by rw [nI_clamp (by omega)]; exact kk)
theorem th_iast {x : Int32} (hexec : p.tables.exec = Jvm.exec) (hb : c.code = cc) (hK : th_k Y s) (hP : va_P Y.1 vwCl ws H) (hD : va_D A ws) (hS : va_S A H0 H locs) (q0 : Nat) (ha : ws[q0]? = some (a, .inl (Y.2 0, n, .inl f))) (hj : j < n) (hn : n < 2147483648) (hdg : decode cc pc = .ok (.iastore, 1))
    (kk : ∀ (H : Heap) (locs : List Loc), va_P Y.1 vwCl (ws.set q0 (a, .inl (Y.2 0, n, .inl (upd f j x)))) H → va_D A (ws.set q0 (a, .inl (Y.2 0, n, .inl (upd f j x)))) → va_S A H0 H locs → W p l e R s m args below meth c H locs cells slots Q (F0 m (pc + 1) ls rest)) : W p l e R s m args below meth c H locs cells slots Q (F0 m pc ls (.int x :: .int (nI j) :: .ref a :: rest)) :=
  va_iast hexec hb hK hP hD hS q0 0 ha rfl (vp_in_nI hj hn) hdg (by rw [nI_clamp (by omega)]; exact kk)
theorem th_zast {x : Int32} (hexec : p.tables.exec = Jvm.exec) (hb : c.code = cc) (hK : th_k Y s) (hP : va_P Y.1 vwCl ws H) (hD : va_D A ws) (hS : va_S A H0 H locs) (q0 : Nat) (ha : ws[q0]? = some (a, .inl (Y.2 1, n, .inl f))) (hj : j < n) (hn : n < 2147483648) (hx : x = 0 ∨ x = 1) (hdg : decode cc pc = .ok (.bastore, 1))
    (kk : ∀ (H : Heap) (locs : List Loc), va_P Y.1 vwCl (ws.set q0 (a, .inl (Y.2 1, n, .inl (upd f j x)))) H → va_D A (ws.set q0 (a, .inl (Y.2 1, n, .inl (upd f j x)))) → va_S A H0 H locs → W p l e R s m args below meth c H locs cells slots Q (F0 m (pc + 1) ls rest)) : W p l e R s m args below meth c H locs cells slots Q (F0 m pc ls (.int x :: .int (nI j) :: .ref a :: rest)) :=
  va_zast hexec hb hK hP hD hS q0 1 ha rfl (vp_in_nI hj hn) hdg (by rw [nI_clamp (by omega), show vp_nar .boolean x = x from by rcases hx with rfl | rfl <;> rfl]; exact kk)
end
abbrev th_rm (k mc ms : Nat) : Room := { frames := 20 * (k + 1), cells := mc, slots := ms, locals := 400 * (k + 1) }
/-- a contract that changes no cell -/
abbrev th_P (l : Launch) (Y : th_Y) (y : MethodName) (cc : ByteArray) (n : Nat) (ret : Option FieldType) (rm : Room) (av : List Value) (H0 : Heap) (post : Option Value → Prop) : Prop := th_M l Y y cc n ret rm av H0 th_no (fun v H => post v ∧ H = H0)
section
variable {p : Program} {l : Launch} {e : Env} {R : Room} {s : State} {m : MethodId} {args : Array Value} {below : List Frame} {meth : Method} {c : Code} {H : Heap} {cells slots : Nat} {Q : State → Prop}
variable {pc : Nat} {ls : Array Slot} {rest : List Value} {A A' : Nat → Prop} {H0 : Heap}
theorem th_kpi {r0 : Int32} (kk : ∀ locs : List Loc, va_S A H0 H locs → W p l e R s m args below meth c H locs cells slots Q (F0 m pc ls (.int r0 :: rest))) :
    ∀ (v : Option Value) (H1 : Heap) (locs1 : List Loc), (v = some (.int r0) ∧ H1 = H) → th_Same th_no H H1 → va_S A H0 H1 locs1 → W p l e R s m args below meth c H1 locs1 cells slots Q (F0 m pc ls (v.toList ++ rest)) := by
  rintro v H1 locs1 ⟨rfl, rfl⟩ - h
  exact kk locs1 h
theorem th_kpe {P : Int32 → Prop} (kk : ∀ (r : Int32) (locs : List Loc), P r → va_S A H0 H locs → W p l e R s m args below meth c H locs cells slots Q (F0 m pc ls (.int r :: rest))) :
    ∀ (v : Option Value) (H1 : Heap) (locs1 : List Loc), ((∃ r : Int32, v = some (.int r) ∧ P r) ∧ H1 = H) → th_Same th_no H H1 → va_S A H0 H1 locs1 → W p l e R s m args below meth c H1 locs1 cells slots Q (F0 m pc ls (v.toList ++ rest)) := by
  rintro v H1 locs1 ⟨⟨r, rfl, hp⟩, rfl⟩ - h
  exact kk r locs1 hp h
theorem th_kpr {P : Nat → Prop} (kk : ∀ (r : Nat) (locs : List Loc), P r → va_S A H0 H locs → W p l e R s m args below meth c H locs cells slots Q (F0 m pc ls (.ref r :: rest))) :
    ∀ (v : Option Value) (H1 : Heap) (locs1 : List Loc), ((∃ r : Nat, v = some (.ref r) ∧ P r) ∧ H1 = H) → th_Same th_no H H1 → va_S A H0 H1 locs1 → W p l e R s m args below meth c H1 locs1 cells slots Q (F0 m pc ls (v.toList ++ rest)) := by
  rintro v H1 locs1 ⟨⟨r, rfl, hp⟩, rfl⟩ - h
  exact kk r locs1 hp h
theorem th_kpv {P : Prop} (kk : ∀ (locs : List Loc), P → va_S A H0 H locs → W p l e R s m args below meth c H locs cells slots Q (F0 m pc ls rest)) :
    ∀ (v : Option Value) (H1 : Heap) (locs1 : List Loc), ((v = none ∧ P) ∧ H1 = H) → th_Same th_no H H1 → va_S A H0 H1 locs1 → W p l e R s m args below meth c H1 locs1 cells slots Q (F0 m pc ls (v.toList ++ rest)) := by
  rintro v H1 locs1 ⟨⟨rfl, hp⟩, rfl⟩ - h
  exact kk locs1 hp h
theorem th_kv {P : Heap → Prop} (kk : ∀ (H1 : Heap) (locs1 : List Loc), P H1 → th_Same A' H H1 → va_S A H0 H1 locs1 → W p l e R s m args below meth c H1 locs1 cells slots Q (F0 m pc ls rest)) :
    ∀ (v : Option Value) (H1 : Heap) (locs1 : List Loc), (v = none ∧ P H1) → th_Same A' H H1 → va_S A H0 H1 locs1 → W p l e R s m args below meth c H1 locs1 cells slots Q (F0 m pc ls (v.toList ++ rest)) := by
  rintro v H1 locs1 ⟨rfl, hp⟩ hs h
  exact kk H1 locs1 hp hs h
theorem th_ki {P : Int32 → Heap → Prop} (kk : ∀ (r : Int32) (H1 : Heap) (locs1 : List Loc), P r H1 → th_Same A' H H1 → va_S A H0 H1 locs1 → W p l e R s m args below meth c H1 locs1 cells slots Q (F0 m pc ls (.int r :: rest))) :
    ∀ (v : Option Value) (H1 : Heap) (locs1 : List Loc), (∃ r : Int32, v = some (.int r) ∧ P r H1) → th_Same A' H H1 → va_S A H0 H1 locs1 → W p l e R s m args below meth c H1 locs1 cells slots Q (F0 m pc ls (v.toList ++ rest)) := by
  rintro v H1 locs1 ⟨r, rfl, hp⟩ hs h
  exact kk r H1 locs1 hp hs h
end
/-- a world behind a call: the callee's cells as they are now, the others as they were -/
theorem th_join {A0 : Nat → Prop} {D : va_G} {cl : List vw_C} {ws wr w1 : va_W} {H H1 : Heap} {L : List Nat} (hP : va_P D cl ws H) (hD : va_D A0 ws) (isR isC : List Nat) (hR : isR.map (fun i => ws[i]?) = wr.map some) (hC : isC.map (fun i => (ws[i]?).map (fun z => z.1)) = L.map some) (hdis : ∀ i ∈ isR, i ∉ isC) (hs : th_Same (fun q => q ∈ L) H H1) (hP1 : va_P D cl w1 H1) : va_P D cl (wr ++ w1) H1 := by
  refine va_P.app (fun k q hq => ?_) hP1
  have h1 : (isR.map (fun i => ws[i]?))[k]? = some (some q) := by rw [hR, List.getElem?_map, hq]; rfl
  rw [List.getElem?_map] at h1
  cases hi : isR[k]? with
  | none => rw [hi] at h1; cases h1
  | some i =>
    rw [hi] at h1
    have h2 : ws[i]? = some q := Option.some.inj h1
    refine (hP i q h2).kept (hs.2 q.1 (hP i q h2).lt (fun hm => ?_))
    obtain ⟨j, hj⟩ := List.getElem?_of_mem hm
    have h3 : (isC.map (fun i => (ws[i]?).map (fun z => z.1)))[j]? = some (some q.1) := by rw [hC, List.getElem?_map, hj]; rfl
    rw [List.getElem?_map] at h3
    cases hc : isC[j]? with
    | none => rw [hc] at h3; cases h3
    | some i2 =>
      rw [hc] at h3
      have h4 : (ws[i2]?).map (fun z => z.1) = some q.1 := Option.some.inj h3
      cases h5 : ws[i2]? with
      | none => rw [h5] at h4; cases h4
      | some q2 =>
        rw [h5] at h4
        have h6 : q2.1 = q.1 := Option.some.inj h4
        have h7 := hD.1 i2 i q2 q h5 h2 h6
        subst h7
        exact hdis i2 (List.mem_of_getElem? hi) (List.mem_of_getElem? hc)
/-- the same addresses, other contents -/
theorem th_Dsame {A : Nat → Prop} {ws ws' : va_W} (h : va_D A ws) (he : ws'.map (fun z => z.1) = ws.map (fun z => z.1)) : va_D A ws' := by
  have key : ∀ (k : Nat) (q : Nat × va_E), ws'[k]? = some q → ∃ q0 : Nat × va_E, ws[k]? = some q0 ∧ q0.1 = q.1 := by
    intro k q hk
    have h1 : (ws'.map (fun z => z.1))[k]? = some q.1 := by rw [List.getElem?_map, hk]; rfl
    rw [he, List.getElem?_map] at h1
    cases h2 : ws[k]? with
    | none => rw [h2] at h1; cases h1
    | some q0 => rw [h2] at h1; exact ⟨q0, rfl, Option.some.inj h1⟩
  refine ⟨fun i j x y hi hj hxy => ?_, fun k q hk => ?_⟩
  · obtain ⟨x0, h1, h2⟩ := key i x hi
    obtain ⟨y0, h3, h4⟩ := key j y hj
    exact h.1 i j x0 y0 h1 h3 (h2.trans (hxy.trans h4.symm))
  · obtain ⟨q0, h1, h2⟩ := key k q hk
    rw [← h2]
    exact h.2 k q0 h1
theorem th_nz {v : Int32} (h : v = 0 ∨ v = 1) : narrow .boolean (.int v) = .int v := by rcases h with rfl | rfl <;> rfl
theorem th_fz {v : Int32} (h : v = 0 ∨ v = 1) : fits .boolean (.int v) = true := by rcases h with rfl | rfl <;> rfl

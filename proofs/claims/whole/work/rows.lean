section
-- ===== PART A: goes FIRST, ahead of the names: the tables' words, and 'selects' of the private methods out of them =====
/-- a private method of a class that the tables say can be made, by its rows of tables_1 -/
def lw_okq (q : MethodName × Nat) : Prop := (q.1.cls ≠ "java/lang/invoke/MethodHandle" ∧ q.1.cls ≠ "java/lang/invoke/VarHandle") ∧ Cond.instantiable q.1.cls q.2 ∈ tables_1 ∧ Cond.privateMethod q.1 ∈ tables_1 ∧ Cond.instanceMethod q.1 ∈ tables_1
theorem lw_p0 : lw_okq (⟨"TreeheadGallery", "viewNumbered", "(I)LTreeheadGallery$View;"⟩, 5) := ⟨⟨by decide +kernel, by decide +kernel⟩, List.mem_of_getElem? (i := 15) (by decide +kernel), List.mem_of_getElem? (i := 176) (by decide +kernel), List.mem_of_getElem? (i := 177) (by decide +kernel)⟩
theorem lw_p1 : lw_okq (⟨"java/lang/Throwable", "fillInStackTrace", "(I)Ljava/lang/Throwable;"⟩, 6) := ⟨⟨by decide +kernel, by decide +kernel⟩, List.mem_of_getElem? (i := 218) (by decide +kernel), List.mem_of_getElem? (i := 216) (by decide +kernel), List.mem_of_getElem? (i := 217) (by decide +kernel)⟩
theorem lw_p2 : lw_okq (⟨"TreeheadGallery$View", "blockAt", "(I)I"⟩, 3) := ⟨⟨by decide +kernel, by decide +kernel⟩, List.mem_of_getElem? (i := 87) (by decide +kernel), List.mem_of_getElem? (i := 352) (by decide +kernel), List.mem_of_getElem? (i := 353) (by decide +kernel)⟩
theorem lw_p3 : lw_okq (⟨"TreeheadGallery$Way", "begin", "(II)V"⟩, 7) := ⟨⟨by decide +kernel, by decide +kernel⟩, List.mem_of_getElem? (i := 33) (by decide +kernel), List.mem_of_getElem? (i := 388) (by decide +kernel), List.mem_of_getElem? (i := 389) (by decide +kernel)⟩
theorem lw_p4 : lw_okq (⟨"TreeheadGallery$Way", "goDown", "()V"⟩, 7) := ⟨⟨by decide +kernel, by decide +kernel⟩, List.mem_of_getElem? (i := 33) (by decide +kernel), List.mem_of_getElem? (i := 392) (by decide +kernel), List.mem_of_getElem? (i := 393) (by decide +kernel)⟩
theorem lw_p5 : lw_okq (⟨"TreeheadGallery$Way", "leaveBeside", "(IIZ)V"⟩, 7) := ⟨⟨by decide +kernel, by decide +kernel⟩, List.mem_of_getElem? (i := 33) (by decide +kernel), List.mem_of_getElem? (i := 397) (by decide +kernel), List.mem_of_getElem? (i := 398) (by decide +kernel)⟩
theorem lw_p6 : lw_okq (⟨"TreeheadGallery$Desk", "takeRoots", "(LTreeheadGallery$View;)V"⟩, 3) := ⟨⟨by decide +kernel, by decide +kernel⟩, List.mem_of_getElem? (i := 27) (by decide +kernel), List.mem_of_getElem? (i := 401) (by decide +kernel), List.mem_of_getElem? (i := 402) (by decide +kernel)⟩
theorem lw_p7 : lw_okq (⟨"TreeheadGallery", "watcherNumbered", "(I)LTreeheadGallery$Watcher;"⟩, 5) := ⟨⟨by decide +kernel, by decide +kernel⟩, List.mem_of_getElem? (i := 15) (by decide +kernel), List.mem_of_getElem? (i := 569) (by decide +kernel), List.mem_of_getElem? (i := 570) (by decide +kernel)⟩
theorem lw_p8 : lw_okq (⟨"TreeheadGallery$Watcher", "countNew", "(LTreeheadGallery$View;)V"⟩, 6) := ⟨⟨by decide +kernel, by decide +kernel⟩, List.mem_of_getElem? (i := 104) (by decide +kernel), List.mem_of_getElem? (i := 579) (by decide +kernel), List.mem_of_getElem? (i := 580) (by decide +kernel)⟩
theorem lw_p9 : lw_okq (⟨"TreeheadGalleryModel", "isView", "(I)Z"⟩, 22) := ⟨⟨by decide +kernel, by decide +kernel⟩, List.mem_of_getElem? (i := 630) (by decide +kernel), List.mem_of_getElem? (i := 711) (by decide +kernel), List.mem_of_getElem? (i := 712) (by decide +kernel)⟩
theorem lw_p10 : lw_okq (⟨"TreeheadGalleryModel", "goesWell", "(I)Z"⟩, 22) := ⟨⟨by decide +kernel, by decide +kernel⟩, List.mem_of_getElem? (i := 630) (by decide +kernel), List.mem_of_getElem? (i := 722) (by decide +kernel), List.mem_of_getElem? (i := 723) (by decide +kernel)⟩
theorem lw_p11 : lw_okq (⟨"TreeheadGalleryModel", "rootOf", "(III)I"⟩, 22) := ⟨⟨by decide +kernel, by decide +kernel⟩, List.mem_of_getElem? (i := 630) (by decide +kernel), List.mem_of_getElem? (i := 754) (by decide +kernel), List.mem_of_getElem? (i := 755) (by decide +kernel)⟩
theorem lw_p12 : lw_okq (⟨"TreeheadGalleryModel", "isSize", "(II)Z"⟩, 22) := ⟨⟨by decide +kernel, by decide +kernel⟩, List.mem_of_getElem? (i := 630) (by decide +kernel), List.mem_of_getElem? (i := 775) (by decide +kernel), List.mem_of_getElem? (i := 776) (by decide +kernel)⟩
theorem lw_p13 : lw_okq (⟨"TreeheadGalleryModel", "goToLeaf", "(III)V"⟩, 22) := ⟨⟨by decide +kernel, by decide +kernel⟩, List.mem_of_getElem? (i := 630) (by decide +kernel), List.mem_of_getElem? (i := 779) (by decide +kernel), List.mem_of_getElem? (i := 780) (by decide +kernel)⟩
theorem lw_p14 : lw_okq (⟨"TreeheadGalleryModel", "step", "(IIIZ)V"⟩, 22) := ⟨⟨by decide +kernel, by decide +kernel⟩, List.mem_of_getElem? (i := 630) (by decide +kernel), List.mem_of_getElem? (i := 786) (by decide +kernel), List.mem_of_getElem? (i := 787) (by decide +kernel)⟩
theorem lw_p15 : lw_okq (⟨"TreeheadGalleryModel", "load", "()I"⟩, 22) := ⟨⟨by decide +kernel, by decide +kernel⟩, List.mem_of_getElem? (i := 630) (by decide +kernel), List.mem_of_getElem? (i := 790) (by decide +kernel), List.mem_of_getElem? (i := 791) (by decide +kernel)⟩
def lw_privs_1 : List (MethodName × Nat) := [(⟨"TreeheadGallery", "viewNumbered", "(I)LTreeheadGallery$View;"⟩, 5), (⟨"java/lang/Throwable", "fillInStackTrace", "(I)Ljava/lang/Throwable;"⟩, 6), (⟨"TreeheadGallery$View", "blockAt", "(I)I"⟩, 3), (⟨"TreeheadGallery$Way", "begin", "(II)V"⟩, 7), (⟨"TreeheadGallery$Way", "goDown", "()V"⟩, 7), (⟨"TreeheadGallery$Way", "leaveBeside", "(IIZ)V"⟩, 7), (⟨"TreeheadGallery$Desk", "takeRoots", "(LTreeheadGallery$View;)V"⟩, 3), (⟨"TreeheadGallery", "watcherNumbered", "(I)LTreeheadGallery$Watcher;"⟩, 5), (⟨"TreeheadGallery$Watcher", "countNew", "(LTreeheadGallery$View;)V"⟩, 6), (⟨"TreeheadGalleryModel", "isView", "(I)Z"⟩, 22), (⟨"TreeheadGalleryModel", "goesWell", "(I)Z"⟩, 22), (⟨"TreeheadGalleryModel", "rootOf", "(III)I"⟩, 22), (⟨"TreeheadGalleryModel", "isSize", "(II)Z"⟩, 22), (⟨"TreeheadGalleryModel", "goToLeaf", "(III)V"⟩, 22), (⟨"TreeheadGalleryModel", "step", "(IIIZ)V"⟩, 22), (⟨"TreeheadGalleryModel", "load", "()I"⟩, 22)]
theorem lw_r1 : ∀ q ∈ lw_privs_1, lw_okq q := List.forall_mem_cons.mpr ⟨lw_p0, List.forall_mem_cons.mpr ⟨lw_p1, List.forall_mem_cons.mpr ⟨lw_p2, List.forall_mem_cons.mpr ⟨lw_p3, List.forall_mem_cons.mpr ⟨lw_p4, List.forall_mem_cons.mpr ⟨lw_p5, List.forall_mem_cons.mpr ⟨lw_p6, List.forall_mem_cons.mpr ⟨lw_p7, List.forall_mem_cons.mpr ⟨lw_p8, List.forall_mem_cons.mpr ⟨lw_p9, List.forall_mem_cons.mpr ⟨lw_p10, List.forall_mem_cons.mpr ⟨lw_p11, List.forall_mem_cons.mpr ⟨lw_p12, List.forall_mem_cons.mpr ⟨lw_p13, List.forall_mem_cons.mpr ⟨lw_p14, List.forall_mem_cons.mpr ⟨lw_p15, fun _ h => absurd h List.not_mem_nil⟩⟩⟩⟩⟩⟩⟩⟩⟩⟩⟩⟩⟩⟩⟩⟩
theorem lw_p16 : lw_okq (⟨"TreeheadGalleryModel", "goToPart", "(III)V"⟩, 22) := ⟨⟨by decide +kernel, by decide +kernel⟩, List.mem_of_getElem? (i := 630) (by decide +kernel), List.mem_of_getElem? (i := 798) (by decide +kernel), List.mem_of_getElem? (i := 799) (by decide +kernel)⟩
theorem lw_p17 : lw_okq (⟨"TreeheadGalleryModel", "climb", "(I)I"⟩, 22) := ⟨⟨by decide +kernel, by decide +kernel⟩, List.mem_of_getElem? (i := 630) (by decide +kernel), List.mem_of_getElem? (i := 809) (by decide +kernel), List.mem_of_getElem? (i := 810) (by decide +kernel)⟩
def lw_privs_2 : List (MethodName × Nat) := [(⟨"TreeheadGalleryModel", "goToPart", "(III)V"⟩, 22), (⟨"TreeheadGalleryModel", "climb", "(I)I"⟩, 22)]
theorem lw_r2 : ∀ q ∈ lw_privs_2, lw_okq q := List.forall_mem_cons.mpr ⟨lw_p16, List.forall_mem_cons.mpr ⟨lw_p17, fun _ h => absurd h List.not_mem_nil⟩⟩
def lw_privs : List (MethodName × Nat) := lw_privs_1 ++ (lw_privs_2)
def lw_tbl : List Cond := k2_sels lw_privs ++ tables_1
theorem lw_privs_ok : ∀ q ∈ lw_privs, lw_okq q := by
  show ∀ q ∈ lw_privs_1 ++ (lw_privs_2), lw_okq q
  exact List.forall_mem_append.mpr ⟨lw_r1, lw_r2⟩
-- ===== end of PART A; then your names; then what follows =====
end
section
/-! ===== BEGIN words of one list among another's, by their places ===== -/
theorem goodIn_r {big : List Cond} (ws : List Cond) (ps : List Nat) (hp : ws = ps.filterMap (fun i => big[i]?)) (h : ws.all goodWord = true) : GoodIn big ws := by
  intro w hw
  have h1 := List.all_eq_true.mp h w hw
  rw [hp] at hw
  obtain ⟨i, -, hi⟩ := List.mem_filterMap.mp hw
  have hm : w ∈ big := by first | exact List.mem_of_getElem? hi | exact List.getElem?_mem hi
  exact ⟨hm, good_of_word h1⟩
theorem goodIn_app {big a b : List Cond} (ha : GoodIn big a) (hb : GoodIn big b) : GoodIn big (a ++ b) := fun w h => (List.mem_append.mp h).elim (ha w) (hb w)
theorem goodIn_ca {big a b : List Cond} {c : Cond} (ha : GoodIn big (c :: a)) (hb : GoodIn big b) : GoodIn big (c :: (a ++ b)) := fun w h => (List.mem_cons.mp h).elim (fun e => ha w (List.mem_cons.mpr (Or.inl e))) (fun h => (List.mem_append.mp h).elim (fun h => ha w (List.mem_cons.mpr (Or.inr h))) (hb w))
theorem goodIn_sub {big ws : List Cond} (hm : ∀ w ∈ ws, w ∈ big) (h : ws.all goodWord = true) : GoodIn big ws := fun w hw => ⟨hm w hw, good_of_word (List.all_eq_true.mp h w hw)⟩
/-! ===== END ===== -/

/-! ===== BEGIN exceptions that leave a method, and their catching by the caller (launches without stack traces) ===== -/
section VXA
/-! The laws vx_back, vx_callV, vx_callS, vx_callSW, vx_throw0, vx_throwS follow proofs of the library, with one case more: JvmDerived/Free/Laws.lean (Back.of_free), Shelf42/LK1.lean (callV, callS), Shelf/KitTraced.lean (throwNew0V, throwNewS). -/
/-- where a method has thrown q: the class by its name, the cell, what was written, the world -/
def vx_T (XC : String → State → State → Prop) (st : State) (q : Addr) (t : State) (mc ms : Nat) (free : Addr → Prop) : Prop :=
  ∃ (E : String) (ce : Cell) (L : List Loc), XC E st t ∧ t.heap[q]? = some ce ∧ ce.vm = .none ∧ st.vm.findClass E = some ce.cls ∧ st.WarmedH t.vm ∧ st.sameButNew ({ t with vm := st.vm } : State) L mc ms ∧ ∀ z ∈ L, free z.base
def vx_Q (Qc : Array Value → State → Outcome → State → Prop) (XC : String → State → State → Prop) (mc ms : Nat) (free : Addr → Prop) : Array Value → State → Outcome → State → Prop := fun a st o t =>
  (Qc a st o t ∧ ∃ L, FrameEnd st o t L mc ms ∧ ∀ q ∈ L, free q.base) ∨ ∃ q, o = .threw q ∧ vx_T XC st q t mc ms free
/-- a callee that returns or throws -/
def vx_Met (l : Launch) (y : MethodName) (ws : List Cond) (rm : Room) (Pc : Array Value → State → Prop) (Qc : Array Value → State → Outcome → State → Prop) (XC : String → State → State → Prop) (mc ms : Nat) (free : Addr → Prop) : Prop :=
  MetFree l y (headSpec ws rm) Pc (fun _ _ _ _ _ => True) (vx_Q Qc XC mc ms free)
def vx_Post (XC : String → State → State → Prop) (mc ms : Nat) (free : Addr → Prop) : Pt → Array Value → Addr → Pt → Prop := fun A a q B =>
  ∃ (g : JFrame) (mk : MethodId) (t : State) (L : List Loc) (E : String) (ce : Cell), B.U.heap = t.heap ∧ B.U.vm = t.vm ∧ XC E (A.U.calling g mk a) t ∧ t.heap[q]? = some ce ∧ ce.vm = .none ∧ A.U.vm.findClass E = some ce.cls ∧ B.locs = A.locs ++ L ∧ (∀ z ∈ L, free z.base) ∧ B.cells = A.cells + mc ∧ B.slots = A.slots + ms
def vx_Back (l : Launch) (R : Room) (p : Program) (e : Env) (below : List Frame) (s : State) (sargs : Array Value) (y : MethodName) (len W9 : Nat)
    (Pre : Pt → Array Value → Prop) (Post : Pt → Array Value → Option Value → Pt → Prop) (PostX : Pt → Array Value → Addr → Pt → Prop) : Prop :=
  ∀ (m : MethodId) (meth : Method) (c : Code) (A : Pt) (g : JFrame) (ig : Instr) (mk : MethodId) (a : Array Value),
    Stand p l e R s m sargs below meth c A.U A.locs A.cells A.slots → g.method = m → g.locals.size = c.maxLocals → decode c.code g.pc = .ok (ig, len) →
    2 * g.monitorRoom + (g.stack.map fun v => v.category).sum ≤ W9 → A.U.methodNamed? y = some mk → Pre A a →
    (∃ (v : Option Value) (B : Pt), Stand p l e R s m sargs below meth c B.U B.locs B.cells B.slots ∧ Post A a v B ∧
      Steps p.tables e below (doInvoke e (A.U.setTop g) [] mk a).1 (B.U.setTop { g with pc := g.pc + len, stack := v.toList ++ g.stack })) ∨
    (∃ (q : Addr) (B : Pt), Stand p l e R s m sargs below meth c B.U B.locs B.cells B.slots ∧ PostX A a q B ∧
      Steps p.tables e below (doInvoke e (A.U.setTop g) [] mk a).1 ((B.U.setTop g).pushFrame (.throwing q)))
section Payer
variable {l : Launch} {R : Room} {p : Program} {e : Env} {below : List Frame} {s : State} {sargs : Array Value} {y : MethodName} {len W9 : Nat}
theorem vx_back {ws : List Cond} {rm : Room} {Pc : Array Value → State → Prop} {Qc : Array Value → State → Outcome → State → Prop} {XC : String → State → State → Prop} {mc ms : Nat} {free : Addr → Prop} {bytes : ByteArray} {maxL : Nat} {ret : Option FieldType}
    (hM : vx_Met l y ws rm Pc Qc XC mc ms free) (hblind : FrameBlind Pc) (hrc : rm.cells = mc) (hrs : rm.slots = ms)
    (hframes : rm.frames + 1 ≤ R.frames) (hlocals : W9 + (maxL + 11) + rm.locals ≤ R.locals)
    (hws : ∀ w ∈ ws, ∀ a' U, s.WarmedH U.vm → w.before a' U = true) (hcode : Cond.code y bytes maxL ret ∈ ws) (hinit : ∀ a' U, s.WarmedH U.vm → (Cond.initialized y.cls).before a' U = true) :
    vx_Back l R p e below s sargs y len W9 (PreOf R mc ms Pc) (PostOf Qc mc ms free) (vx_Post XC mc ms free) := by
  intro m meth c A g ig mk a X hg hsize hdg hW hn hp
  have h1 : (headSpec ws rm).pre.before a A.U = true := atoms_intro fun w hw => hws w hw _ _ X.warmed
  have h2 : (Cond.code y bytes maxL ret).before a A.U = true := hws _ hcode _ _ X.warmed
  have h3 : (Cond.initialized y.cls).before a A.U = true := hinit _ _ X.warmed
  have h4 : A.cells + (headSpec ws rm).room.cells ≤ R.cells := by rw [show (headSpec ws rm).room.cells = mc from hrc]; exact hp.1
  have h5 : A.slots + (headSpec ws rm).room.slots ≤ R.slots := by rw [show (headSpec ws rm).room.slots = ms from hrs]; exact hp.2.1
  have hPc : Pc a (A.U.calling g mk a) := hblind _ _ _ _ hp.2.2
  obtain ⟨U, Ls, c0, s0⟩ := A
  dsimp only [Pt.U, Pt.locs, Pt.cells, Pt.slots] at h1 h2 h3 h4 h5 X hn hPc ⊢
  obtain ⟨methY, cY, hmY, hcY, -, hlY, -, -, -, -⟩ := Cond.code_spec hn h2
  obtain ⟨kY, hkY, -⟩ := className_of_methodNamed hn
  have hinitY : kY.init = .initialized := Cond.initialized_spec (findClass_of_methodNamed hn) hkY h3
  have h : At U g.method c below := by rw [hg]; exact X.here
  have hlocals9 : W9 + (maxL + 11) + (headSpec ws rm).room.locals ≤ R.locals := hlocals
  have happ : (headSpec ws rm).appliesLoose y e.platform (U.calling g mk a) = true :=
    Spec.appliesLoose_calling (g := g) h hdg hn hkY hinitY
      (X.room_calling (g := g) (R' := (headSpec ws rm).room) hsize hmY hcY hframes (by rw [hlY]; omega) h4 h5) h1
  obtain ⟨mid, hmid⟩ := h.above
  have hfr : (U.setTop g).frames = (.java g :: mid) ++ below := by rw [State.frames_setTop' g h.top, hmid]; rfl
  obtain ⟨o, s₂, hsteps, -, hend, hq⟩ := Steps.callFree hM p X.admits X.cas X.clock (acts := []) hfr happ hPc trivial
  have hq' : vx_Q Qc XC mc ms free a (U.calling g mk a) o s₂ := hq
  rw [State.frames_setTop' g h.top] at hend
  obtain ⟨g₀, hg0⟩ := Option.isSome_iff_exists.mp h.top
  obtain ⟨r, hr⟩ := State.topJava?_eq_some.mp hg0
  have hr' : (({ U with heap := s₂.heap, slotsUsed := s₂.slotsUsed } : State).setVm s₂.vm).frames = .java g₀ :: r := hr
  rcases hq' with ⟨hqc, L, hfe, hL⟩ | ⟨q, rfl, E, ce, L, hx, hce, hcv, hcl, hW₂, hsm, hL⟩
  · obtain ⟨⟨v, rfl⟩, hW₂, e2, q2, q3, q4, q5, q6⟩ := id hfe
    have e3 : s₂ = ({ (U.calling g mk a).setFrames s₂.frames with heap := s₂.heap, slotsUsed := s₂.slotsUsed } : State).setVm s₂.vm := by
      have : s₂ = ({ s₂ with vm := (U.calling g mk a).vm } : State).setVm s₂.vm := rfl
      rw [e2] at this
      exact this
    obtain ⟨c₂, i₂, len₂, hc₂, hd₂, hf₂⟩ := hend
    have hW' : U.WarmedH s₂.vm := hW₂
    have hcc : c₂ = c := by
      have h1 : s₂.code? g.method = U.code? g.method := by
        rw [State.code?_eq, State.code?_eq, hW'.alike.method?]
      exact Option.some.inj (hc₂.symm.trans (h1.trans h.code))
    subst hcc
    have hlen : len₂ = len := by rw [hdg] at hd₂; cases hd₂; rfl
    subst hlen
    have hs₂ : s₂ = (({ U with heap := s₂.heap, slotsUsed := s₂.slotsUsed } : State).setVm s₂.vm).setTop { g with pc := g.pc + len₂, stack := v.toList ++ g.stack } := by
      refine e3.trans ?_
      rw [hf₂, State.calling_eq h.top, State.setFrames_setFrames, State.setTop_of_frames _ hr', hr]
      rfl
    have hsame : U.sameButNew ({ U with heap := s₂.heap, slotsUsed := s₂.slotsUsed } : State) L mc ms := by
      refine ⟨?_, q2, q3, q4, q5, q6⟩
      obtain ⟨t, ht, -⟩ := State.frames_cons hr
      show ({ U with heap := s₂.heap, slotsUsed := s₂.slotsUsed } : State) = { U.setFrames U.frames with heap := s₂.heap, slotsUsed := s₂.slotsUsed }
      rw [State.setFrames_self ht]
    subst hg
    refine Or.inl ⟨v, ⟨(({ U with heap := s₂.heap, slotsUsed := s₂.slotsUsed } : State).setVm s₂.vm), Ls ++ L, c0 + mc, s0 + ms⟩,
      ⟨X.admits, X.cas, X.clock, X.frames, X.room, X.hears, X.method, X.code, (X.here.setHeapUsed s₂.heap s₂.slotsUsed).setVm hW'.alike, X.tail, State.WarmedH.trans X.warmed hW', X.limits, X.bytes, X.same.trans (hsame.setVm s.vm)⟩,
      ⟨g, mk, s₂, L, rfl, rfl, hqc, rfl, hL, rfl, rfl⟩, ?_⟩
    show Steps p.tables e below _ ((({ U with heap := s₂.heap, slotsUsed := s₂.slotsUsed } : State).setVm s₂.vm).setTop { g with pc := g.pc + len₂, stack := v.toList ++ g.stack })
    rw [← hs₂]
    exact hsteps
  · obtain ⟨e2, q2, q3, q4, q5, q6⟩ := id hsm
    have e3 : s₂ = ({ (U.calling g mk a).setFrames s₂.frames with heap := s₂.heap, slotsUsed := s₂.slotsUsed } : State).setVm s₂.vm := by
      have : s₂ = ({ s₂ with vm := (U.calling g mk a).vm } : State).setVm s₂.vm := rfl
      rw [e2] at this
      exact this
    have hf₂ : s₂.frames = .throwing q :: .java g :: U.frames.tail := hend
    have hW' : U.WarmedH s₂.vm := hW₂
    have hs₂ : s₂ = ((({ U with heap := s₂.heap, slotsUsed := s₂.slotsUsed } : State).setVm s₂.vm).setTop g).pushFrame (.throwing q) := by
      refine e3.trans ?_
      rw [hf₂, State.calling_eq h.top, State.setFrames_setFrames, State.pushFrame, State.frames_setTop _ hr', State.setTop_of_frames _ hr', State.setFrames_setFrames, hr]
      rfl
    have hsame : U.sameButNew ({ U with heap := s₂.heap, slotsUsed := s₂.slotsUsed } : State) L mc ms := by
      refine ⟨?_, q2, q3, q4, q5, q6⟩
      obtain ⟨t, ht, -⟩ := State.frames_cons hr
      show ({ U with heap := s₂.heap, slotsUsed := s₂.slotsUsed } : State) = { U.setFrames U.frames with heap := s₂.heap, slotsUsed := s₂.slotsUsed }
      rw [State.setFrames_self ht]
    subst hg
    refine Or.inr ⟨q, ⟨(({ U with heap := s₂.heap, slotsUsed := s₂.slotsUsed } : State).setVm s₂.vm), Ls ++ L, c0 + mc, s0 + ms⟩,
      ⟨X.admits, X.cas, X.clock, X.frames, X.room, X.hears, X.method, X.code, (X.here.setHeapUsed s₂.heap s₂.slotsUsed).setVm hW'.alike, X.tail, State.WarmedH.trans X.warmed hW', X.limits, X.bytes, X.same.trans (hsame.setVm s.vm)⟩,
      ⟨g, mk, s₂, L, E, ce, rfl, rfl, hx, hce, hcv, hcl, rfl, hL, rfl, rfl⟩, ?_⟩
    show Steps p.tables e below _ (((({ U with heap := s₂.heap, slotsUsed := s₂.slotsUsed } : State).setVm s₂.vm).setTop g).pushFrame (.throwing q))
    rw [← hs₂]
    exact hsteps
end Payer
section Calls
variable {p : Program} {l : Launch} {e : Env} {R : Room} {s : State} {m : MethodId} {args : Array Value} {below : List Frame} {meth : Method} {c : Code} {T : State} {locs : List Loc} {cells slots : Nat}
theorem vx_callV (X : Stand p l e R s m args below meth c T locs cells slots) (hexec : p.tables.exec = Jvm.exec) {own C : String} {index : Nat} {y : MethodName} {bytes : ByteArray} {maxL : Nat} {ret : Option FieldType}
    (hown : s.vm.findClass own = some m.cls) (hlink : (Cond.methodLink own index y).before args s = true) (hinst : (Cond.instanceMethod y).before args s = true) (hsel : (Cond.selects C y y).before args s = true)
    (hcode : (Cond.code y bytes maxL ret).before args s = true) (hy : y.cls ≠ "java/lang/invoke/MethodHandle" ∧ y.cls ≠ "java/lang/invoke/VarHandle")
    {W9 : Nat} {Pre : Pt → Array Value → Prop} {Post : Pt → Array Value → Option Value → Pt → Prop} {PostX : Pt → Array Value → Addr → Pt → Prop} (hK : vx_Back l R p e below s args y 3 W9 Pre Post PostX)
    {b : Addr} {cellB : Cell} (hcell : T.heap[b]? = some cellB) (hobj : cellB.vm.isStatics = false) (hcls : s.vm.findClass C = some cellB.cls)
    {g : JFrame} (hg : g.method = m) (hsize : g.locals.size = c.maxLocals) {argsL rest : List Value} (hlen : ∀ sig, parseMethodDescriptor y.desc = some sig → argsL.length = sig.parameters.length)
    (hstack : g.stack = argsL.reverse ++ .ref b :: rest) (hW : 2 * g.monitorRoom + (rest.map fun v => v.category).sum ≤ W9) (hdg : decode c.code g.pc = .ok (.invokevirtual index, 3))
    (hpre : ∀ vm₁, s.WarmedH vm₁ → Pre ⟨T.setVm vm₁, locs, cells, slots⟩ (Value.ref b :: argsL).toArray) :
    (∃ (v : Option Value) (vm₁ : Vm) (B : Pt), s.WarmedH vm₁ ∧ Stand p l e R s m args below meth c B.U B.locs B.cells B.slots ∧ Post ⟨T.setVm vm₁, locs, cells, slots⟩ (Value.ref b :: argsL).toArray v B ∧
      ∀ target, Steps p.tables e below (B.U.setTop { g with pc := g.pc + 3, stack := v.toList ++ rest }) target → Steps p.tables e below (T.setTop g) target) ∨
    (∃ (q : Addr) (vm₁ : Vm) (B : Pt), s.WarmedH vm₁ ∧ Stand p l e R s m args below meth c B.U B.locs B.cells B.slots ∧ PostX ⟨T.setVm vm₁, locs, cells, slots⟩ (Value.ref b :: argsL).toArray q B ∧
      Steps p.tables e below (T.setTop g) ((B.U.setTop { g with stack := rest }).pushFrame (.throwing q))) := by
  obtain ⟨mk, methM, hnamed, hmethM, hstM, habM⟩ := Cond.instanceMethod_spec hinst
  obtain ⟨methM', cM, hmethM', -, -, -, -, -, -, hsigM⟩ := Cond.code_spec hnamed hcode
  cases hmethM.symm.trans hmethM'
  obtain ⟨c2, r2, m2, q1, q2, q3, q4, kP, hkP, hkPi⟩ := Cond.selects_spec hsel
  cases hcls.symm.trans q1
  cases (State.methodFound?_of_named hnamed hy).symm.trans q2
  cases hnamed.symm.trans q3
  have hselP : selectMethod e.platform s.vm cellB.cls mk = .method mk := by rw [Launch.admits_selectMethod X.admits]; exact q4
  obtain ⟨vm₁, X₁, hstep₁⟩ := X.invokevirtual hexec hown hlink hnamed hmethM hstM hkP hkPi hy (a := b) (cell := cellB) hcell
    (fun z h => by rw [h] at hobj; cases hobj) hselP hmethM habM hkP hkPi (g := g) hg (argsL := argsL) (rest := rest) (hlen _ hsigM) hstack hdg
  rcases hK m meth c ⟨T.setVm vm₁, locs, cells, slots⟩ { g with stack := rest } (.invokevirtual index) mk (Value.ref b :: argsL).toArray X₁ hg hsize hdg hW (X₁.named hnamed) (hpre vm₁ X₁.warmed) with ⟨v, B, X', hpost, hsteps⟩ | ⟨q, B, X', hpost, hsteps⟩
  · exact Or.inl ⟨v, vm₁, B, X₁.warmed, X', hpost, fun target h => hstep₁ _ fun acts => by rw [doInvoke_state]; exact hsteps.trans h⟩
  · exact Or.inr ⟨q, vm₁, B, X₁.warmed, X', hpost, hstep₁ _ fun acts => by rw [doInvoke_state]; exact hsteps⟩
theorem vx_callS (X : Stand p l e R s m args below meth c T locs cells slots) (hexec : p.tables.exec = Jvm.exec) {own : String} {index : Nat} {y : MethodName} {bytes : ByteArray} {maxL : Nat} {ret : Option FieldType}
    (hown : s.vm.findClass own = some m.cls) (hlink : (Cond.methodLink own index y).before args s = true) (hstat : (Cond.static y).before args s = true) (hinit : (Cond.initialized y.cls).before args s = true)
    (hcode : (Cond.code y bytes maxL ret).before args s = true) (hy : y.cls ≠ "java/lang/invoke/MethodHandle" ∧ y.cls ≠ "java/lang/invoke/VarHandle")
    {W9 : Nat} {Pre : Pt → Array Value → Prop} {Post : Pt → Array Value → Option Value → Pt → Prop} {PostX : Pt → Array Value → Addr → Pt → Prop} (hK : vx_Back l R p e below s args y 3 W9 Pre Post PostX)
    {g : JFrame} (hg : g.method = m) (hsize : g.locals.size = c.maxLocals) {argsL rest : List Value} (hlen : ∀ sig, parseMethodDescriptor y.desc = some sig → argsL.length = sig.parameters.length)
    (hstack : g.stack = argsL.reverse ++ rest) (hW : 2 * g.monitorRoom + (rest.map fun v => v.category).sum ≤ W9) (hdg : decode c.code g.pc = .ok (.invokestatic index, 3))
    (hpre : ∀ vm₁, s.WarmedH vm₁ → Pre ⟨T.setVm vm₁, locs, cells, slots⟩ argsL.toArray) :
    (∃ (v : Option Value) (vm₁ : Vm) (B : Pt), s.WarmedH vm₁ ∧ Stand p l e R s m args below meth c B.U B.locs B.cells B.slots ∧ Post ⟨T.setVm vm₁, locs, cells, slots⟩ argsL.toArray v B ∧
      ∀ target, Steps p.tables e below (B.U.setTop { g with pc := g.pc + 3, stack := v.toList ++ rest }) target → Steps p.tables e below (T.setTop g) target) ∨
    (∃ (q : Addr) (vm₁ : Vm) (B : Pt), s.WarmedH vm₁ ∧ Stand p l e R s m args below meth c B.U B.locs B.cells B.slots ∧ PostX ⟨T.setVm vm₁, locs, cells, slots⟩ argsL.toArray q B ∧
      Steps p.tables e below (T.setTop g) ((B.U.setTop { g with stack := rest }).pushFrame (.throwing q))) := by
  obtain ⟨mk, hnamed⟩ := Cond.code_named hcode
  obtain ⟨methM, cM, hmethM, -, -, -, -, -, -, hsigM⟩ := Cond.code_spec hnamed hcode
  have hstatic : methM.isStatic = true := Cond.static_spec hnamed hmethM hstat
  obtain ⟨kP, hkP, -⟩ := className_of_methodNamed hnamed
  have hinitP : kP.init = .initialized := Cond.initialized_spec (findClass_of_methodNamed hnamed) hkP hinit
  obtain ⟨vm₁, X₁, hstep₁⟩ := X.invokestatic hexec hown hlink hnamed hmethM hstatic hkP hinitP hy (g := g) hg (argsL := argsL) (rest := rest) (hlen _ hsigM) hstack hdg
  rcases hK m meth c ⟨T.setVm vm₁, locs, cells, slots⟩ { g with stack := rest } (.invokestatic index) mk argsL.toArray X₁ hg hsize hdg hW (X₁.named hnamed) (hpre vm₁ X₁.warmed) with ⟨v, B, X', hpost, hsteps⟩ | ⟨q, B, X', hpost, hsteps⟩
  · exact Or.inl ⟨v, vm₁, B, X₁.warmed, X', hpost, fun target h => hstep₁ _ fun acts => by rw [doInvoke_state]; exact hsteps.trans h⟩
  · exact Or.inr ⟨q, vm₁, B, X₁.warmed, X', hpost, hstep₁ _ fun acts => by rw [doInvoke_state]; exact hsteps⟩
end Calls
theorem vx_cls {s : State} {T : State} {vm₁ : Vm} {E : String} {k : ClassId} (hW : s.WarmedH vm₁) (h : (T.setVm vm₁).vm.findClass E = some k) : s.vm.findClass E = some k := by
  have h1 : vm₁.findClass E = some k := h
  rw [hW.alike.findClass] at h1
  exact h1
/-- the method's frame g, with q thrown over it -/
def vx_W (p : Program) (l : Launch) (e : Env) (R : Room) (s : State) (m : MethodId) (args : Array Value) (below : List Frame) (meth : Method) (c : Code) (H : Heap) (locs : List Loc) (cells slots : Nat) (Q : State → Prop) (g : JFrame) (q : Addr) : Prop :=
  ∀ T : State, T.heap = H → Stand p l e R s m args below meth c T locs cells slots → ∃ t, Steps p.tables e below ((T.setTop g).pushFrame (.throwing q)) t ∧ Q t
def vx_Run (p : Program) (l : Launch) (e : Env) (R : Room) (s : State) (m : MethodId) (args : Array Value) (below : List Frame) (meth : Method) (c : Code) (H : Heap) (locs : List Loc) (cells slots mc ms : Nat) (g : JFrame) (rest : List Value) (Qa : State → Outcome → State → Prop) (XC : String → State → State → Prop) (free : Addr → Prop) : Prop :=
  ∀ T : State, T.heap = H → Stand p l e R s m args below meth c T locs cells slots →
    (∃ (v : Option Value) (st₀ t T' : State) (L : List Loc), st₀.heap = H ∧ Stand p l e R s m args below meth c T' (locs ++ L) (cells + mc) (slots + ms) ∧ (∀ q ∈ L, free q.base) ∧ T'.heap = t.heap ∧ T'.vm = t.vm ∧ Qa st₀ (.returned v) t ∧
      Goes p e below T g T' { g with pc := g.pc + 3, stack := v.toList ++ rest }) ∨
    (∃ (q : Addr) (st₀ t T' : State) (L : List Loc) (E : String) (ce : Cell), st₀.heap = H ∧ Stand p l e R s m args below meth c T' (locs ++ L) (cells + mc) (slots + ms) ∧ (∀ z ∈ L, free z.base) ∧ T'.heap = t.heap ∧ T'.vm = t.vm ∧ XC E st₀ t ∧ t.heap[q]? = some ce ∧ ce.vm = .none ∧ s.vm.findClass E = some ce.cls ∧
      Steps p.tables e below (T.setTop g) ((T'.setTop { g with stack := rest }).pushFrame (.throwing q)))
def vx_X {S : Type} (px : S → Prop) (B : String → S → State → Prop) (A : Nat → Prop) : String → State → State → Prop := fun E st t => ∃ u : S, px u ∧ B E u t ∧ va_F A st t
section Runs
variable {p : Program} {l : Launch} {e : Env} {R : Room} {s : State} {m : MethodId} {args : Array Value} {below : List Frame} {meth : Method} {c : Code} {H : Heap} {locs : List Loc} {cells slots : Nat}
variable {y : MethodName} {bytes cc : ByteArray} {maxL nL mc ms n index : Nat} {ret : Option FieldType} {ws : List Cond} {rm : Room} {Pc : Array Value → State → Prop} {Qc : Array Value → State → Outcome → State → Prop} {XC : String → State → State → Prop} {free : Addr → Prop} {Ts : List Cond} {own C : String} {b : Addr} {As rest : List Value} {g : JFrame}
theorem vx_callBack (cb : CallB R s args own index y bytes maxL ret ws rm mc ms n) (hM : vx_Met l y ws rm Pc Qc XC mc ms free) (hbl : FrameBlind Pc) : vx_Back l R p e below s args y 3 8 (PreOf R mc ms Pc) (PostOf Qc mc ms free) (vx_Post XC mc ms free) := by
  obtain ⟨hrc, hrs, hfr, hlo, hws, hcw, -, hini, -⟩ := cb
  exact vx_back (bytes := bytes) (maxL := maxL) (ret := ret) hM hbl hrc hrs hfr hlo hws hcw (fun a' U hW => word_at hW (Or.inl (by first | rfl | simp [Cond.onTables, Cond.keeps, Cond.steady])) hini)
theorem vx_runV (S : CallFix p m c cc nL s args Ts own) (hM : vx_Met l y ws rm Pc Qc XC mc ms free) (cw : CallW R s args own C index y bytes maxL ret ws rm mc ms n) (hp : PreV s H C b Pc As)
    (hg : g.method = m) (hn : As.length = n) (hsize : g.locals.size = nL) (hstack : g.stack = As.reverse ++ .ref b :: rest) (hW : 2 * g.monitorRoom + (rest.map fun v => v.category).sum ≤ 8) (hdg : decode cc g.pc = .ok (.invokevirtual index, 3)) (hf : cells + mc ≤ R.cells ∧ slots + ms ≤ R.slots) :
    vx_Run p l e R s m args below meth c H locs cells slots mc ms g rest (Qc (Value.ref b :: As).toArray) XC free := by
  have hK : vx_Back l R p e below s args y 3 8 (PreOf R mc ms Pc) (PostOf Qc mc ms free) (vx_Post XC mc ms free) := vx_callBack cw.1 hM hp.1
  obtain ⟨⟨-, -, -, -, -, -, hcode, -, hy, hlen, hl⟩, hin, hse⟩ := cw
  obtain ⟨hx, hb, hml, ho, -⟩ := S
  obtain ⟨-, ⟨cellB, hcB, hoB, hclB⟩, hPc⟩ := hp
  intro T hT X
  rcases vx_callV X hx (C := C) (bytes := bytes) (maxL := maxL) (ret := ret) ho hl hin hse hcode hy hK (by rw [hT]; exact hcB) hoB hclB hg (hsize.trans hml.symm) (argsL := As) (rest := rest) (fun sig h => hn.trans (hlen sig h)) hstack hW (by rw [hb]; exact hdg)
    (fun vm₁ hW₁ => ⟨hf.1, hf.2, hPc (T.setVm vm₁) hT hW₁⟩) with ⟨v, vm₁, ⟨U', l2, c2, s2⟩, hW₁, X', ⟨g', mk, t, L, e1, e2, hq, h1, hL, h2, h3⟩, st⟩ | ⟨q, vm₁, ⟨U', l2, c2, s2⟩, hW₁, X', ⟨g', mk, t, L, E, ce, e1, e2, hq, hce, hcv, hcl, h1, hL, h2, h3⟩, st⟩
  · dsimp only [Pt.U, Pt.locs, Pt.cells, Pt.slots] at X' e1 e2 h1 h2 h3 st
    subst h1; subst h2; subst h3
    exact Or.inl ⟨v, (T.setVm vm₁).calling g' mk (Value.ref b :: As).toArray, t, U', L, hT, X', hL, e1, e2, hq, st⟩
  · dsimp only [Pt.U, Pt.locs, Pt.cells, Pt.slots] at X' e1 e2 h1 h2 h3 st hcl
    subst h1; subst h2; subst h3
    exact Or.inr ⟨q, (T.setVm vm₁).calling g' mk (Value.ref b :: As).toArray, t, U', L, E, ce, hT, X', hL, e1, e2, hq, hce, hcv, vx_cls hW₁ hcl, st⟩
theorem vx_runS (S : CallFix p m c cc nL s args Ts own) (hM : vx_Met l y ws rm Pc Qc XC mc ms free) (cw : CallB R s args own index y bytes maxL ret ws rm mc ms n ∧ (Cond.static y).before args s = true) (hp : PreS s H Pc As)
    (hg : g.method = m) (hn : As.length = n) (hsize : g.locals.size = nL) (hstack : g.stack = As.reverse ++ rest) (hW : 2 * g.monitorRoom + (rest.map fun v => v.category).sum ≤ 8) (hdg : decode cc g.pc = .ok (.invokestatic index, 3)) (hf : cells + mc ≤ R.cells ∧ slots + ms ≤ R.slots) :
    vx_Run p l e R s m args below meth c H locs cells slots mc ms g rest (Qc As.toArray) XC free := by
  have hK : vx_Back l R p e below s args y 3 8 (PreOf R mc ms Pc) (PostOf Qc mc ms free) (vx_Post XC mc ms free) := vx_callBack cw.1 hM hp.1
  obtain ⟨⟨-, -, -, -, -, -, hcode, hini, hy, hlen, hl⟩, hstt⟩ := cw
  obtain ⟨hx, hb, hml, ho, -⟩ := S
  intro T hT X
  rcases vx_callS X hx (bytes := bytes) (maxL := maxL) (ret := ret) ho hl hstt hini hcode hy hK hg (hsize.trans hml.symm) (argsL := As) (rest := rest) (fun sig h => hn.trans (hlen sig h)) hstack hW (by rw [hb]; exact hdg)
    (fun vm₁ hW₁ => ⟨hf.1, hf.2, hp.2 (T.setVm vm₁) hT hW₁⟩) with ⟨v, vm₁, ⟨U', l2, c2, s2⟩, hW₁, X', ⟨g', mk, t, L, e1, e2, hq, h1, hL, h2, h3⟩, st⟩ | ⟨q, vm₁, ⟨U', l2, c2, s2⟩, hW₁, X', ⟨g', mk, t, L, E, ce, e1, e2, hq, hce, hcv, hcl, h1, hL, h2, h3⟩, st⟩
  · dsimp only [Pt.U, Pt.locs, Pt.cells, Pt.slots] at X' e1 e2 h1 h2 h3 st
    subst h1; subst h2; subst h3
    exact Or.inl ⟨v, (T.setVm vm₁).calling g' mk As.toArray, t, U', L, hT, X', hL, e1, e2, hq, st⟩
  · dsimp only [Pt.U, Pt.locs, Pt.cells, Pt.slots] at X' e1 e2 h1 h2 h3 st hcl
    subst h1; subst h2; subst h3
    exact Or.inr ⟨q, (T.setVm vm₁).calling g' mk As.toArray, t, U', L, E, ce, hT, X', hL, e1, e2, hq, hce, hcv, vx_cls hW₁ hcl, st⟩
end Runs
section Rows
variable {p : Program} {l : Launch} {e : Env} {R : Room} {s : State} {m : MethodId} {args : Array Value} {below : List Frame} {meth : Method} {c : Code} {H : Heap} {locs : List Loc} {cells slots : Nat} {Q : State → Prop}
variable {mc ms : Nat} {free : Addr → Prop} {A0 A1 : Nat → Prop} {H0 : Heap} {a : Array Value} {pc : Nat} {ls : Array Slot} {st0 rest : List Value}
theorem vx_keep {st₀ t T' : State} {L : List Loc} (h0 : st₀.heap = H) (e1 : T'.heap = t.heap) (hS : va_S A0 H0 H locs) (hA : ∀ q, q < H.size → A1 q → A0 q) (hf : ∀ q, free q → A0 q) (hL : ∀ q ∈ L, free q.base) (hF : va_F A1 st₀ t) :
    H.size ≤ T'.heap.size ∧ (∀ q : Nat, q < H.size → ¬ A1 q → T'.heap[q]? = H[q]?) ∧ va_S A0 H0 T'.heap (locs ++ L) := by
  obtain ⟨hz, hk⟩ := hF
  rw [h0] at hz hk
  exact ⟨by rw [e1]; exact hz, fun q h1 h2 => by rw [e1]; exact hk q h1 h2,
    ⟨Nat.le_trans hS.1 (by rw [e1]; exact hz), fun q h1 h2 => by rw [e1, hk q (Nat.lt_of_lt_of_le h1 hS.1) (fun z => h2 (hA q (Nat.lt_of_lt_of_le h1 hS.1) z))]; exact hS.2.1 q h1 h2, fun q hq => by
      rcases List.mem_append.mp hq with h | h
      · exact hS.2.2 q h
      · exact hf _ (hL q h)⟩⟩
theorem vx_calli {S SX : Type} {post : Int32 → S → Prop} {px : SX → Prop} {B : S → State → Prop} {BX : String → SX → State → Prop} {AX : Nat → Prop} (hr : vx_Run p l e R s m args below meth c H locs cells slots mc ms (F0 m pc ls st0) rest (va_Qi post B A1 a) (vx_X px BX AX) free) (hS : va_S A0 H0 H locs) (hA : ∀ q, q < H.size → A1 q → A0 q) (hf : ∀ q, free q → A0 q) (hAX : ∀ q, q < H.size → AX q → A0 q)
    (kx : ∀ (E : String) (ce : Cell) (q9 : Addr) (u : SX) (t : State) (H1 : Heap) (locs1 : List Loc), t.heap = H1 → s.vm.Alike t.vm → px u → BX E u t → H.size ≤ H1.size → (∀ q : Nat, q < H.size → ¬ AX q → H1[q]? = H[q]?) → va_S A0 H0 H1 locs1 → H1[q9]? = some ce → ce.vm = .none → s.vm.findClass E = some ce.cls → vx_W p l e R s m args below meth c H1 locs1 (cells + mc) (slots + ms) Q (F0 m pc ls rest) q9)
    (kk : ∀ (r : Int32) (u : S) (t : State) (H1 : Heap) (locs1 : List Loc), t.heap = H1 → s.vm.Alike t.vm → post r u → B u t → H.size ≤ H1.size → (∀ q : Nat, q < H.size → ¬ A1 q → H1[q]? = H[q]?) → va_S A0 H0 H1 locs1 → W p l e R s m args below meth c H1 locs1 (cells + mc) (slots + ms) Q (F0 m (pc + 3) ls (.int r :: rest))) : W p l e R s m args below meth c H locs cells slots Q (F0 m pc ls st0) := by
  intro T hT X
  rcases hr T hT X with ⟨v, st₀, t, T', L, h0, X', hL, e1, e2, ⟨⟨r, u, hv, hp, hb⟩, hF⟩, st⟩ | ⟨q, st₀, t, T', L, E, ce, h0, X', hL, e1, e2, ⟨u, hp, hb, hF⟩, hce, hcv, hcl, st⟩
  · cases hv
    obtain ⟨k1, k2, k3⟩ := vx_keep h0 e1 hS hA hf hL hF
    obtain ⟨t2, a1, b1⟩ := kk r u t T'.heap (locs ++ L) e1.symm (by rw [← e2]; exact X'.warmed.alike) hp hb k1 k2 k3 T' rfl X'
    exact ⟨t2, st t2 a1, b1⟩
  · obtain ⟨k1, k2, k3⟩ := vx_keep h0 e1 hS hAX hf hL hF
    obtain ⟨t2, a1, b1⟩ := kx E ce q u t T'.heap (locs ++ L) e1.symm (by rw [← e2]; exact X'.warmed.alike) hp hb k1 k2 k3 (by rw [e1]; exact hce) hcv hcl T' rfl X'
    exact ⟨t2, st.trans a1, b1⟩
theorem vx_calll {S SX : Type} {post : Int64 → S → Prop} {px : SX → Prop} {B : S → State → Prop} {BX : String → SX → State → Prop} {AX : Nat → Prop} (hr : vx_Run p l e R s m args below meth c H locs cells slots mc ms (F0 m pc ls st0) rest (va_Ql post B A1 a) (vx_X px BX AX) free) (hS : va_S A0 H0 H locs) (hA : ∀ q, q < H.size → A1 q → A0 q) (hf : ∀ q, free q → A0 q) (hAX : ∀ q, q < H.size → AX q → A0 q)
    (kx : ∀ (E : String) (ce : Cell) (q9 : Addr) (u : SX) (t : State) (H1 : Heap) (locs1 : List Loc), t.heap = H1 → s.vm.Alike t.vm → px u → BX E u t → H.size ≤ H1.size → (∀ q : Nat, q < H.size → ¬ AX q → H1[q]? = H[q]?) → va_S A0 H0 H1 locs1 → H1[q9]? = some ce → ce.vm = .none → s.vm.findClass E = some ce.cls → vx_W p l e R s m args below meth c H1 locs1 (cells + mc) (slots + ms) Q (F0 m pc ls rest) q9)
    (kk : ∀ (r : Int64) (u : S) (t : State) (H1 : Heap) (locs1 : List Loc), t.heap = H1 → s.vm.Alike t.vm → post r u → B u t → H.size ≤ H1.size → (∀ q : Nat, q < H.size → ¬ A1 q → H1[q]? = H[q]?) → va_S A0 H0 H1 locs1 → W p l e R s m args below meth c H1 locs1 (cells + mc) (slots + ms) Q (F0 m (pc + 3) ls (.long r :: rest))) : W p l e R s m args below meth c H locs cells slots Q (F0 m pc ls st0) := by
  intro T hT X
  rcases hr T hT X with ⟨v, st₀, t, T', L, h0, X', hL, e1, e2, ⟨⟨r, u, hv, hp, hb⟩, hF⟩, st⟩ | ⟨q, st₀, t, T', L, E, ce, h0, X', hL, e1, e2, ⟨u, hp, hb, hF⟩, hce, hcv, hcl, st⟩
  · cases hv
    obtain ⟨k1, k2, k3⟩ := vx_keep h0 e1 hS hA hf hL hF
    obtain ⟨t2, a1, b1⟩ := kk r u t T'.heap (locs ++ L) e1.symm (by rw [← e2]; exact X'.warmed.alike) hp hb k1 k2 k3 T' rfl X'
    exact ⟨t2, st t2 a1, b1⟩
  · obtain ⟨k1, k2, k3⟩ := vx_keep h0 e1 hS hAX hf hL hF
    obtain ⟨t2, a1, b1⟩ := kx E ce q u t T'.heap (locs ++ L) e1.symm (by rw [← e2]; exact X'.warmed.alike) hp hb k1 k2 k3 (by rw [e1]; exact hce) hcv hcl T' rfl X'
    exact ⟨t2, st.trans a1, b1⟩
theorem vx_callf {S SX : Type} {post : UInt32 → S → Prop} {px : SX → Prop} {B : S → State → Prop} {BX : String → SX → State → Prop} {AX : Nat → Prop} (hr : vx_Run p l e R s m args below meth c H locs cells slots mc ms (F0 m pc ls st0) rest (va_Qf post B A1 a) (vx_X px BX AX) free) (hS : va_S A0 H0 H locs) (hA : ∀ q, q < H.size → A1 q → A0 q) (hf : ∀ q, free q → A0 q) (hAX : ∀ q, q < H.size → AX q → A0 q)
    (kx : ∀ (E : String) (ce : Cell) (q9 : Addr) (u : SX) (t : State) (H1 : Heap) (locs1 : List Loc), t.heap = H1 → s.vm.Alike t.vm → px u → BX E u t → H.size ≤ H1.size → (∀ q : Nat, q < H.size → ¬ AX q → H1[q]? = H[q]?) → va_S A0 H0 H1 locs1 → H1[q9]? = some ce → ce.vm = .none → s.vm.findClass E = some ce.cls → vx_W p l e R s m args below meth c H1 locs1 (cells + mc) (slots + ms) Q (F0 m pc ls rest) q9)
    (kk : ∀ (r : UInt32) (u : S) (t : State) (H1 : Heap) (locs1 : List Loc), t.heap = H1 → s.vm.Alike t.vm → post r u → B u t → H.size ≤ H1.size → (∀ q : Nat, q < H.size → ¬ A1 q → H1[q]? = H[q]?) → va_S A0 H0 H1 locs1 → W p l e R s m args below meth c H1 locs1 (cells + mc) (slots + ms) Q (F0 m (pc + 3) ls (.float r :: rest))) : W p l e R s m args below meth c H locs cells slots Q (F0 m pc ls st0) := by
  intro T hT X
  rcases hr T hT X with ⟨v, st₀, t, T', L, h0, X', hL, e1, e2, ⟨⟨r, u, hv, hp, hb⟩, hF⟩, st⟩ | ⟨q, st₀, t, T', L, E, ce, h0, X', hL, e1, e2, ⟨u, hp, hb, hF⟩, hce, hcv, hcl, st⟩
  · cases hv
    obtain ⟨k1, k2, k3⟩ := vx_keep h0 e1 hS hA hf hL hF
    obtain ⟨t2, a1, b1⟩ := kk r u t T'.heap (locs ++ L) e1.symm (by rw [← e2]; exact X'.warmed.alike) hp hb k1 k2 k3 T' rfl X'
    exact ⟨t2, st t2 a1, b1⟩
  · obtain ⟨k1, k2, k3⟩ := vx_keep h0 e1 hS hAX hf hL hF
    obtain ⟨t2, a1, b1⟩ := kx E ce q u t T'.heap (locs ++ L) e1.symm (by rw [← e2]; exact X'.warmed.alike) hp hb k1 k2 k3 (by rw [e1]; exact hce) hcv hcl T' rfl X'
    exact ⟨t2, st.trans a1, b1⟩
theorem vx_calld {S SX : Type} {post : UInt64 → S → Prop} {px : SX → Prop} {B : S → State → Prop} {BX : String → SX → State → Prop} {AX : Nat → Prop} (hr : vx_Run p l e R s m args below meth c H locs cells slots mc ms (F0 m pc ls st0) rest (va_Qd post B A1 a) (vx_X px BX AX) free) (hS : va_S A0 H0 H locs) (hA : ∀ q, q < H.size → A1 q → A0 q) (hf : ∀ q, free q → A0 q) (hAX : ∀ q, q < H.size → AX q → A0 q)
    (kx : ∀ (E : String) (ce : Cell) (q9 : Addr) (u : SX) (t : State) (H1 : Heap) (locs1 : List Loc), t.heap = H1 → s.vm.Alike t.vm → px u → BX E u t → H.size ≤ H1.size → (∀ q : Nat, q < H.size → ¬ AX q → H1[q]? = H[q]?) → va_S A0 H0 H1 locs1 → H1[q9]? = some ce → ce.vm = .none → s.vm.findClass E = some ce.cls → vx_W p l e R s m args below meth c H1 locs1 (cells + mc) (slots + ms) Q (F0 m pc ls rest) q9)
    (kk : ∀ (r : UInt64) (u : S) (t : State) (H1 : Heap) (locs1 : List Loc), t.heap = H1 → s.vm.Alike t.vm → post r u → B u t → H.size ≤ H1.size → (∀ q : Nat, q < H.size → ¬ A1 q → H1[q]? = H[q]?) → va_S A0 H0 H1 locs1 → W p l e R s m args below meth c H1 locs1 (cells + mc) (slots + ms) Q (F0 m (pc + 3) ls (.double r :: rest))) : W p l e R s m args below meth c H locs cells slots Q (F0 m pc ls st0) := by
  intro T hT X
  rcases hr T hT X with ⟨v, st₀, t, T', L, h0, X', hL, e1, e2, ⟨⟨r, u, hv, hp, hb⟩, hF⟩, st⟩ | ⟨q, st₀, t, T', L, E, ce, h0, X', hL, e1, e2, ⟨u, hp, hb, hF⟩, hce, hcv, hcl, st⟩
  · cases hv
    obtain ⟨k1, k2, k3⟩ := vx_keep h0 e1 hS hA hf hL hF
    obtain ⟨t2, a1, b1⟩ := kk r u t T'.heap (locs ++ L) e1.symm (by rw [← e2]; exact X'.warmed.alike) hp hb k1 k2 k3 T' rfl X'
    exact ⟨t2, st t2 a1, b1⟩
  · obtain ⟨k1, k2, k3⟩ := vx_keep h0 e1 hS hAX hf hL hF
    obtain ⟨t2, a1, b1⟩ := kx E ce q u t T'.heap (locs ++ L) e1.symm (by rw [← e2]; exact X'.warmed.alike) hp hb k1 k2 k3 (by rw [e1]; exact hce) hcv hcl T' rfl X'
    exact ⟨t2, st.trans a1, b1⟩
theorem vx_callv {S SX : Type} {post : S → Prop} {px : SX → Prop} {B : S → State → Prop} {BX : String → SX → State → Prop} {AX : Nat → Prop} (hr : vx_Run p l e R s m args below meth c H locs cells slots mc ms (F0 m pc ls st0) rest (va_Qv post B A1 a) (vx_X px BX AX) free) (hS : va_S A0 H0 H locs) (hA : ∀ q, q < H.size → A1 q → A0 q) (hf : ∀ q, free q → A0 q) (hAX : ∀ q, q < H.size → AX q → A0 q)
    (kx : ∀ (E : String) (ce : Cell) (q9 : Addr) (u : SX) (t : State) (H1 : Heap) (locs1 : List Loc), t.heap = H1 → s.vm.Alike t.vm → px u → BX E u t → H.size ≤ H1.size → (∀ q : Nat, q < H.size → ¬ AX q → H1[q]? = H[q]?) → va_S A0 H0 H1 locs1 → H1[q9]? = some ce → ce.vm = .none → s.vm.findClass E = some ce.cls → vx_W p l e R s m args below meth c H1 locs1 (cells + mc) (slots + ms) Q (F0 m pc ls rest) q9)
    (kk : ∀ (u : S) (t : State) (H1 : Heap) (locs1 : List Loc), t.heap = H1 → s.vm.Alike t.vm → post u → B u t → H.size ≤ H1.size → (∀ q : Nat, q < H.size → ¬ A1 q → H1[q]? = H[q]?) → va_S A0 H0 H1 locs1 → W p l e R s m args below meth c H1 locs1 (cells + mc) (slots + ms) Q (F0 m (pc + 3) ls (rest))) : W p l e R s m args below meth c H locs cells slots Q (F0 m pc ls st0) := by
  intro T hT X
  rcases hr T hT X with ⟨v, st₀, t, T', L, h0, X', hL, e1, e2, ⟨⟨u, hv, hp, hb⟩, hF⟩, st⟩ | ⟨q, st₀, t, T', L, E, ce, h0, X', hL, e1, e2, ⟨u, hp, hb, hF⟩, hce, hcv, hcl, st⟩
  · cases hv
    obtain ⟨k1, k2, k3⟩ := vx_keep h0 e1 hS hA hf hL hF
    obtain ⟨t2, a1, b1⟩ := kk u t T'.heap (locs ++ L) e1.symm (by rw [← e2]; exact X'.warmed.alike) hp hb k1 k2 k3 T' rfl X'
    exact ⟨t2, st t2 a1, b1⟩
  · obtain ⟨k1, k2, k3⟩ := vx_keep h0 e1 hS hAX hf hL hF
    obtain ⟨t2, a1, b1⟩ := kx E ce q u t T'.heap (locs ++ L) e1.symm (by rw [← e2]; exact X'.warmed.alike) hp hb k1 k2 k3 (by rw [e1]; exact hce) hcv hcl T' rfl X'
    exact ⟨t2, st.trans a1, b1⟩
/-- caught by the row x of this method's table; the rows ahead don't take it -/
theorem vx_catch {own name : String} {E : String} {ce : Cell} {q : Addr} (hown : s.vm.findClass own = some m.cls) (pre : List ExceptionTableEntry) (x : ExceptionTableEntry) (suf : List ExceptionTableEntry) (hsplit : c.exceptionTable.toList = pre ++ x :: suf)
    (hpass : ∀ z ∈ pre, covers z pc = false ∨ (z.catchType ≠ 0 ∧ ∃ nm : String, (Cond.classLink own z.catchType nm).before args s = true ∧ va_Nc E nm s)) (hx : covers x pc = true) (h0 : x.catchType ≠ 0)
    (hlink : (Cond.classLink own x.catchType name).before args s = true) (hcast : (Cond.castable E name).before args s = true) (hcell : H[q]? = some ce) (hv : ce.vm = .none) (hcl : s.vm.findClass E = some ce.cls)
    (kk : W p l e R s m args below meth c H locs cells slots Q (F0 m x.handlerPc ls [.ref q])) : vx_W p l e R s m args below meth c H locs cells slots Q (F0 m pc ls rest) q := by
  intro T hT X
  have hpl : e.platform.magicAccessors = ({} : Platform).magicAccessors := by rw [X.admits.platform]
  obtain ⟨c3, c4, hc3, hc4, hasg⟩ := Cond.castable_spec hcast
  cases Option.some.inj (hc3.symm.trans hcl)
  obtain ⟨c5, hc5, hcl5⟩ := Cond.classLink_spec hown hlink e.platform hpl
  cases Option.some.inj (hc4.symm.trans hc5)
  obtain ⟨vm', X', st⟩ := X.thenCaughtThrough q (g := F0 m pc ls rest) rfl (Steps.refl _) (by rw [hT]; exact hcell) (by rw [hv]; rfl) (by obtain ⟨k9, h9, -⟩ := Vm.findClass_spec hcl; exact ⟨k9, h9⟩) pre x suf hsplit
    (fun z hz => by
      rcases hpass z hz with h | ⟨hz0, nm, hl1, hn1⟩
      · exact Or.inl h
      · obtain ⟨c6, hc6, hcl6⟩ := Cond.classLink_spec hown hl1 e.platform hpl
        obtain ⟨a8, b8, h1, h2, h3⟩ := hn1
        cases Option.some.inj (h1.symm.trans hcl)
        cases Option.some.inj (h2.symm.trans hc6)
        exact Or.inr ⟨hz0, _, hcl6, h3⟩) hx (Or.inr ⟨h0, c4, hcl5, hasg⟩)
  obtain ⟨t, a1, b1⟩ := kk (T.setVm vm') hT X'
  exact ⟨t, st.trans a1, b1⟩
end Rows
section Ends
variable {p : Program} {l : Launch} {e : Env} {R : Room} {s : State} {m : MethodId} {args : Array Value} {below : List Frame} {meth : Method} {c : Code} {H : Heap} {locs : List Loc} {cells slots : Nat} {Q : State → Prop}
variable {mc ms : Nat} {free : Addr → Prop} {A0 A1 : Nat → Prop} {H0 : Heap} {a : Array Value} {ls : Array Slot} {st0 rest : List Value}
variable {Qc : Array Value → State → Outcome → State → Prop} {XC : String → State → State → Prop}
/-- what a body that may throw owes at its end -/
def vx_MQ (below : List Frame) (Qc : Array Value → State → Outcome → State → Prop) (XC : String → State → State → Prop) (a : Array Value) (s : State) (mc ms : Nat) (free : Addr → Prop) : State → Prop := fun t =>
  ∃ o, t.status = .running ∧ Ended t below o ∧ vx_Q Qc XC mc ms free a s o t
theorem vx_ret {g : JFrame} {mc ms : Nat} (k : W p l e R s m args below meth c H locs cells slots (MQ below Qc args s mc ms free) g) : W p l e R s m args below meth c H locs cells slots (vx_MQ below Qc XC args s mc ms free) g := by
  intro T hT X
  obtain ⟨t, a1, o, b1, b2, b3, b4⟩ := k T hT X
  exact ⟨t, a1, o, b1, b2, Or.inl ⟨b3, b4⟩⟩
/-- not caught here: it goes on to the caller -/
theorem vx_widen {g : JFrame} {q : Addr} {k n : Nat} (h1 : cells ≤ k) (h2 : slots ≤ n) (kk : vx_W p l e R s m args below meth c H locs k n Q g q) : vx_W p l e R s m args below meth c H locs cells slots Q g q := fun T hT X => kk T hT (stand_widen X h1 h2)
theorem vx_out {pc : Nat} {E : String} {ce : Cell} {q : Addr} {mc ms : Nat} (hout : ∀ x ∈ c.exceptionTable.toList, covers x pc = false) (hlocks : meth.locks = false) (hcell : H[q]? = some ce) (hv : ce.vm = .none) (hcl : s.vm.findClass E = some ce.cls)
    (hx : ∀ t : State, t.heap = H → s.vm.Alike t.vm → XC E s t) (hf : ∀ z ∈ locs, free z.base) (hc : cells ≤ mc) (hs : slots ≤ ms) :
    vx_W p l e R s m args below meth c H locs cells slots (vx_MQ below Qc XC args s mc ms free) (F0 m pc ls rest) q := by
  intro T hT X
  obtain ⟨st1, hrun, hend, hW, hsm⟩ := X.leaveThrown q (g := F0 m pc ls rest) rfl rfl rfl hout hlocks
  have hcell9 : (T.setFrames (.throwing q :: below)).heap[q]? = some ce := by
    show T.heap[q]? = some ce
    rw [hT]; exact hcell
  exact ⟨_, st1, .threw q, hrun, hend, Or.inr ⟨q, rfl, E, ce, locs, hx _ hT hW.alike, hcell9, hv, hcl, hW, hsm.mono hc hs, hf⟩⟩
theorem vx_frame {U : State} {k n : Nat} (h : s.sameButNew ({ U with vm := s.vm } : State) locs k n) : s.heap.size ≤ U.heap.size ∧ ∀ q : Nat, q < s.heap.size → (∀ z ∈ locs, z.base ≠ q) → U.heap[q]? = s.heap[q]? := by
  obtain ⟨-, h2, -, -, -, h6⟩ := h
  refine ⟨h2, fun q hq hz => ?_⟩
  obtain ⟨c9, e1, e2, e3, e4⟩ := h6 q _ (Array.getElem?_eq_getElem hq)
  have hs : c9.slots = (s.heap[q]).slots := Array.ext_getElem? fun i => e4 i fun hm => hz _ hm rfl
  have h9 : c9 = s.heap[q] := by
    rw [hs] at e2
    exact e2
  have e5 : U.heap[q]? = some c9 := e1
  rw [e5, h9, Array.getElem?_eq_getElem hq]
/-- the words of a throw but the four that speak of the heap -/
def vx_no (w : Cond) : Bool := decide (w ≠ .isRef (.static Bundle.tN "UNASSIGNED_STACK" Bundle.steD)) && decide (w ≠ .isRef (.static Bundle.tN "SUPPRESSED_SENTINEL" Bundle.listD)) && decide (w ≠ .laysStatic Bundle.tN "UNASSIGNED_STACK" Bundle.steD) && decide (w ≠ .laysStatic Bundle.tN "SUPPRESSED_SENTINEL" Bundle.listD)
def vx_at0 (own : String) (ic : Nat) (X : String) (names : List String) : List Cond := (Bundle.ownAtoms0 own ic X names).filter vx_no
def vx_atS (own : String) (ic : Nat) (X : String) (names : List String) : List Cond := (Bundle.ownAtoms own ic X names).filter vx_no
/-- a word that the tables alone decide, or a good one -/
def vx_ot (w : Cond) : Bool := w.onTables || goodWord w
theorem vx_ot_at {args a' : Array Value} {s U : State} {w : Cond} (hW : s.WarmedH U.vm) (hvm : s.vm = U.vm) (hg : vx_ot w = true) (h : w.before args s = true) : w.before a' U = true := by
  simp only [vx_ot, Bool.or_eq_true] at hg
  rcases hg with hg | hg
  · exact va_tabs hg hvm h
  · exact word_at hW (good_of_word hg) h
/-- a list's words: the good ones out of the method's own list, the others by premises of their own -/
theorem vx_hat {args : Array Value} {s : State} {L B : List Cond} (h1 : ∀ w ∈ L.filter goodWord, w.before args s = true) (h2 : ∀ w ∈ L.filter (fun w => !goodWord w), w ∈ B) (h3 : ∀ w ∈ B, w.before args s = true) : ∀ w ∈ L, w.before args s = true := by
  intro w hw
  by_cases g : goodWord w = true
  · exact h1 w (List.mem_filter.mpr ⟨hw, g⟩)
  · refine h3 w (h2 w (List.mem_filter.mpr ⟨hw, ?_⟩))
    show (!goodWord w) = true
    cases hgw : goodWord w
    · rfl
    · exact absurd hgw g
theorem vx_c {args : Array Value} {s : State} {w : Cond} {B : List Cond} (h : w.before args s = true) (t : ∀ w ∈ B, w.before args s = true) : ∀ w' ∈ w :: B, w'.before args s = true := fun w' h' => (List.mem_cons.mp h').elim (fun e => by rw [e]; exact h) (t w')
theorem vx_n {args : Array Value} {s : State} : ∀ w ∈ ([] : List Cond), w.before args s = true := fun _ h => nomatch h
theorem vx_own {args : Array Value} {s : State} {L : List Cond} (h1 : ∀ w ∈ L.filter vx_no, w.before args s = true)
    (hU : (Cond.isRef (.static Bundle.tN "UNASSIGNED_STACK" Bundle.steD)).before args s = true) (hN : (Cond.isRef (.static Bundle.tN "SUPPRESSED_SENTINEL" Bundle.listD)).before args s = true)
    (lU : (Cond.laysStatic Bundle.tN "UNASSIGNED_STACK" Bundle.steD).before args s = true) (lN : (Cond.laysStatic Bundle.tN "SUPPRESSED_SENTINEL" Bundle.listD).before args s = true) : ∀ w ∈ L, w.before args s = true := by
  intro w hw
  by_cases e1 : w = .isRef (.static Bundle.tN "UNASSIGNED_STACK" Bundle.steD)
  · rw [e1]; exact hU
  · by_cases e2 : w = .isRef (.static Bundle.tN "SUPPRESSED_SENTINEL" Bundle.listD)
    · rw [e2]; exact hN
    · by_cases e3 : w = .laysStatic Bundle.tN "UNASSIGNED_STACK" Bundle.steD
      · rw [e3]; exact lU
      · by_cases e4 : w = .laysStatic Bundle.tN "SUPPRESSED_SENTINEL" Bundle.listD
        · rw [e4]; exact lN
        · exact h1 w (List.mem_filter.mpr ⟨hw, by unfold vx_no; rw [decide_eq_true e1, decide_eq_true e2, decide_eq_true e3, decide_eq_true e4]; rfl⟩)
/-- where a static field lies, its class's statics cell in H -/
def vx_L (C n d : String) (A : Nat → Prop) (U : State) (H : Heap) : Prop := ∃ (c : ClassId) (k : Class) (i : Nat) (f : Field) (a : Nat) (cell : Cell), U.vm.findClass C = some c ∧ U.fieldFound? C n d = some (c, k, i, f) ∧ f.isStatic = true ∧ k.statics = some a ∧ H[a]? = some cell ∧ cell.vm.isStatics = true ∧ cell.cls = c ∧ f.slot < cell.slots.size ∧ k.staticTypes[f.slot]? = some f.type ∧ ¬ A a
theorem vx_L.moved {C n d : String} {A : Nat → Prop} {u U : State} {H : Heap} (hvm : u.vm.Alike U.vm) (h : vx_L C n d A u H) : vx_L C n d A U H := by
  obtain ⟨c, k, i, f, a, cell, h1, h2, h3, h4, h5, h6, h7, h8, h9, h10⟩ := h
  obtain ⟨k', hi', he⟩ := State.fieldFound?_setVm hvm h2
  exact ⟨c, k', i, f, a, cell, by rw [hvm.findClass]; exact h1, hi', h3, by rw [he]; exact h4, h5, h6, h7, h8, by rw [he]; exact h9, h10⟩
theorem vx_L.kept {C n d : String} {A : Nat → Prop} {U : State} {H H1 : Heap} (h : vx_L C n d A U H) (hq : ∀ a : Nat, a < H.size → ¬ A a → H1[a]? = H[a]?) : vx_L C n d A U H1 := by
  obtain ⟨c, k, i, f, a, cell, h1, h2, h3, h4, h5, h6, h7, h8, h9, h10⟩ := h
  exact ⟨c, k, i, f, a, cell, h1, h2, h3, h4, by rw [hq a (Array.getElem?_eq_some_iff.mp h5).1 h10]; exact h5, h6, h7, h8, h9, h10⟩
theorem vx_L.narrow {C n d : String} {A B : Nat → Prop} {U : State} {H : Heap} (h : vx_L C n d A U H) (hAB : ∀ q, B q → A q) : vx_L C n d B U H := by
  obtain ⟨c, k, i, f, a, cell, h1, h2, h3, h4, h5, h6, h7, h8, h9, h10⟩ := h
  exact ⟨c, k, i, f, a, cell, h1, h2, h3, h4, h5, h6, h7, h8, h9, fun z => h10 (hAB _ z)⟩
theorem vx_L.word {C n d : String} {A : Nat → Prop} {s : State} {args : Array Value} (h : vx_L C n d A s s.heap) : (Cond.laysStatic C n d).before args s = true := by
  obtain ⟨c, k, i, f, a, cell, h1, h2, h3, h4, h5, h6, h7, h8, h9, -⟩ := h
  show (Cond.laysStatic C n d).holds args s none s [] = true
  exact Cond.laysStatic_of h1 h2 h3 h4 h5 h6 h7 h8 h9
/-- .. and what it holds: null or some reference -/
def vx_Zq (C n d : String) (A : Nat → Prop) (U : State) (H : Heap) : Prop := va_Zq C n d A U H ∧ vx_L C n d A U H
theorem vx_Zq.moved {C n d : String} {A : Nat → Prop} {u U : State} {H : Heap} (hvm : u.vm.Alike U.vm) (h : vx_Zq C n d A u H) : vx_Zq C n d A U H := ⟨va_Zq.moved hvm h.1, vx_L.moved hvm h.2⟩
theorem vx_Zq.kept {C n d : String} {A : Nat → Prop} {U : State} {H H1 : Heap} (h : vx_Zq C n d A U H) (hq : ∀ a : Nat, a < H.size → ¬ A a → H1[a]? = H[a]?) : vx_Zq C n d A U H1 := ⟨va_Zq.kept h.1 hq, vx_L.kept h.2 hq⟩
theorem vx_Zq.narrow {C n d : String} {A B : Nat → Prop} {U : State} {H : Heap} (h : vx_Zq C n d A U H) (hAB : ∀ q, B q → A q) : vx_Zq C n d B U H := ⟨va_Zq.narrow h.1 hAB, vx_L.narrow h.2 hAB⟩
theorem vx_Zqof {args : Array Value} {s : State} {C n d : String} {A : Nat → Prop} (hl : (Cond.laysStatic C n d).before args s = true) (hini : (Cond.initialized C).before args s = true) (h : (Cond.isRef (.static C n d)).before args s = true) (hA : ∀ a : Nat, a < s.heap.size → ¬ A a) : vx_Zq C n d A s s.heap := by
  refine ⟨va_Zqof hl hini h hA, ?_⟩
  obtain ⟨c, k, i, f, a, cell, h1, h2, h3, h4, h5, h6, h7, h8, h9⟩ := Cond.laysStatic_spec hl
  exact ⟨c, k, i, f, a, cell, h1, h2, h3, h4, h5, h6, h7, h8, h9, hA a (Array.getElem?_eq_some_iff.mp h5).1⟩
theorem vx_isRef {C n d : String} {v : Value} {A : Nat → Prop} {s : State} {args : Array Value} (h : va_Z C n d v A s s.heap) (hv : v.isRef = true) : (Cond.isRef (.static C n d)).before args s = true := by
  obtain ⟨cf, kf, fi, f, a, cell, h1, h2, h3, h4, h5, h6, h7, -⟩ := h
  have he : (Term.static C n d).eval args s none [] s = some v := by
    simp [Term.eval, State.fieldNamed?, h1, h2, h4, h5, h6, h7]
  simp only [Cond.before, Cond.holds, Cond.value, he]
  cases v <;> simp_all [Value.isRef]
theorem vx_isRefq {C n d : String} {A : Nat → Prop} {s : State} {args : Array Value} (h : va_Zq C n d A s s.heap) : (Cond.isRef (.static C n d)).before args s = true := by
  rcases h with h | ⟨t, h⟩
  · exact vx_isRef h rfl
  · exact vx_isRef h rfl
/-- the same frame, seen from here: as if the method were called anew in this heap -/
theorem vx_rebase {T : State} (X : Stand p l e R s m args below meth c T locs cells slots) {R' : Room} (hf : R'.frames ≤ R.frames) (hl : R'.locals ≤ R.locals) (hc : cells + R'.cells ≤ R.cells) (hs : slots + R'.slots ≤ R.slots) :
    Stand p l e R' ((T.setVm s.vm).setFrames (.invoking m args :: below)) m args below meth c T [] 0 0 := by
  have htop : (T.setVm s.vm).topJava?.isSome := X.here.top
  have hF : ((T.setVm s.vm).setFrames (.invoking m args :: below)).frames = .invoking m args :: below := State.frames_setFrames _ (State.cur_lt_of_top htop)
  obtain ⟨g₀, hg0⟩ := Option.isSome_iff_exists.mp htop
  obtain ⟨r, hr⟩ := State.topJava?_eq_some.mp hg0
  have hl9 : e.platform.stackLimits (T.setVm s.vm).me = e.platform.stackLimits s.me := X.limits
  have hb9 : (T.setVm s.vm).me.stackBytes = s.me.stackBytes := X.bytes
  refine ⟨X.admits, X.cas, X.clock, hF, ?_, X.hears, X.method, X.code, X.here, X.tail, X.warmed, ?_, ?_, ?_⟩
  · have h := X.room
    have hU : ((T.setVm s.vm).setFrames (.invoking m args :: below)).localsInUse = s.localsInUse := by
      rw [State.localsInUse_invoking hF (meth := meth) (c := c) X.method X.code, State.localsInUse_invoking X.frames X.method X.code]
    simp only [State.hasRoom, Bool.and_eq_true, decide_eq_true_eq] at h ⊢
    obtain ⟨⟨⟨⟨h1, h2, h3, h4, h5, h6⟩, h7⟩, h8⟩, h9⟩ := h
    rw [X.frames, List.length_cons] at h2 h3
    have q1 := X.heapSize
    have q2 := X.used
    simp only [hF, hU, List.length_cons, State.stackLimits_setFrames, State.stackBytes_setFrames, hl9, hb9]
    refine ⟨⟨⟨⟨by omega, by omega, by omega, by omega, by omega, h6⟩, ?_⟩, ?_⟩, X.book⟩
    · show T.heap.size + R'.cells ≤ e.platform.maxCells
      omega
    · show T.slotsUsed + R'.slots ≤ e.platform.maxSlots
      omega
  · rw [State.stackLimits_setFrames]; rfl
  · rw [State.stackBytes_setFrames]; rfl
  · refine ⟨?_, Nat.le_refl _, Nat.le_refl _, ?_, ?_, fun a c9 h9 => ⟨c9, h9, rfl, rfl, fun _ _ => rfl⟩⟩
    · obtain ⟨t, ht, -⟩ := State.frames_cons hr
      show T.setVm s.vm = { ((T.setVm s.vm).setFrames (.invoking m args :: below)).setFrames (T.setVm s.vm).frames with heap := T.heap, slotsUsed := T.slotsUsed }
      rw [State.setFrames_setFrames, State.setFrames_self ht]
      rfl
    · show T.slotsUsed = T.slotsUsed + ((T.heap.toList.drop T.heap.size).map (·.slots.size)).sum
      rw [List.drop_eq_nil_of_le (Nat.le_of_eq Array.length_toList)]
      rfl
    · show ((T.heap.toList.drop T.heap.size).map (·.slots.size)).sum ≤ 0
      rw [List.drop_eq_nil_of_le (Nat.le_of_eq Array.length_toList)]
      exact Nat.le_refl _
/-- 'throw new E()': new; dup; invokespecial; athrow -/
theorem vx_throw0 {cc : ByteArray} {pc : Nat} (hexec : p.tables.exec = Jvm.exec) (hb : c.code = cc) (hl : l.stackTraces = false) {own cls : String} {names : List String} {ik ic mc ms : Nat} {A : Nat → Prop}
    (hown : s.vm.findClass own = some m.cls) (hcls : Bundle.fit cls = true) (hnames : ∀ n ∈ names, Bundle.fit n = true)
    (hk : (Cond.classLink own ik cls).before args s = true) (hini : (Cond.initialized cls).before args s = true) (hat : ∀ w ∈ vx_at0 own ic cls names, w.before args s = true)
    (hgood : ∀ w ∈ Cond.classLink own ik cls :: Cond.initialized cls :: vx_at0 own ic cls names, vx_ot w = true)
    (hU : vx_Zq Bundle.tN "UNASSIGNED_STACK" Bundle.steD A s s.heap) (hN : vx_Zq Bundle.tN "SUPPRESSED_SENTINEL" Bundle.listD A s s.heap) (hS : va_S A s.heap H locs) (hsize : ls.size = c.maxLocals)
    (d0 : decode cc pc = .ok (.new ik, 3)) (d3 : decode cc (pc + 3) = .ok (.dup, 1)) (d4 : decode cc (pc + 4) = .ok (.invokespecial ic, 3)) (d7 : decode cc (pc + 7) = .ok (.athrow, 1))
    (hout : ∀ x ∈ c.exceptionTable.toList, covers x (pc + 7) = false)
    (hRframes : names.length + 3 < R.frames) (hRlocals : (rest.map fun v => v.category).sum + (13 * (names.length + 1) + 42) ≤ R.locals) (hRcells : cells + 1 ≤ R.cells) (hRslots : slots + 6 ≤ R.slots) (hlocks : meth.locks = false)
    (hx : ∀ t : State, s.vm.Alike t.vm → H.size ≤ t.heap.size → (∀ q : Nat, q < H.size → t.heap[q]? = H[q]?) → XC cls s t)
    (hf : ∀ z ∈ locs, free z.base) (hc : cells + 1 ≤ mc) (hs : slots + 6 ≤ ms) :
    W p l e R s m args below meth c H locs cells slots (vx_MQ below Qc XC args s mc ms free) (F0 m pc ls rest) := by
  intro T hT X
  have htr : e.platform.stackTraces = false := (show e.platform.stackTraces = l.stackTraces by rw [X.admits.platform]).trans hl
  have Y := vx_rebase X (R' := { frames := R.frames, locals := R.locals, cells := 1, slots := 6 }) (Nat.le_refl _) (Nat.le_refl _) hRcells hRslots
  obtain ⟨s', hA⟩ : ∃ z, z = (T.setVm s.vm).setFrames (.invoking m args :: below) := ⟨_, rfl⟩
  rw [← hA] at Y
  have hvm : s'.vm = s.vm := by rw [hA]; rfl
  have hhp : s'.heap = H := by rw [hA]; exact hT
  have hW0 : s.WarmedH s'.vm := by rw [hvm]; exact State.WarmedH.refl s
  have hat' : ∀ w ∈ vx_at0 own ic cls names, w.before args s' = true := fun w hw => vx_ot_at hW0 hvm.symm (hgood w (List.mem_cons_of_mem _ (List.mem_cons_of_mem _ hw))) (hat w hw)
  have hk' : (Cond.classLink own ik cls).before args s' = true := vx_ot_at hW0 hvm.symm (hgood _ List.mem_cons_self) hk
  have hini' : (Cond.initialized cls).before args s' = true := vx_ot_at hW0 hvm.symm (hgood _ (List.mem_cons_of_mem _ List.mem_cons_self)) hini
  have hU' : vx_Zq Bundle.tN "UNASSIGNED_STACK" Bundle.steD A s' s'.heap := by rw [hhp]; exact vx_Zq.moved hW0.alike (hU.kept hS.2.1)
  have hN' : vx_Zq Bundle.tN "SUPPRESSED_SENTINEL" Bundle.listD A s' s'.heap := by rw [hhp]; exact vx_Zq.moved hW0.alike (hN.kept hS.2.1)
  have h : ∀ w ∈ Bundle.ownAtoms0 own ic cls names, w.before args s' = true := vx_own hat' (vx_isRefq hU'.1) (vx_isRefq hN'.1) hU'.2.word hN'.2.word
  have hown' : s'.vm.findClass own = some m.cls := by rw [hvm]; exact hown
  have hins : (Cond.instantiable cls 6).before args s' = true := h _ (by simp [Bundle.ownAtoms0])
  obtain ⟨vm₁, cX, kX, hfX, hkX, -, -, X₁, st1⟩ := Y.newCold hexec (own := own) (C := cls) (index := ik) (n := 6) hown' hk' hins hini'
    (g := F0 m pc ls rest) rfl (by rw [hb]; exact d0) (Nat.le_refl _) (Nat.le_refl _)
  generalize hT1 : (T.setVm vm₁).pushCell { cls := cX, slots := kX.instanceTypes.map defaultValue, vm := .none } = T1 at X₁ st1
  have hcat : (Value.ref T.heap.size).category = 1 := rfl
  have hcellA : T1.heap[T.heap.size]? = some (freshCell cX kX) := by rw [← hT1]; exact State.heap_pushCell_size _ _
  have d3' : decode c.code (pc + 3) = .ok (.dup, 1) := by rw [hb]; exact d3
  obtain ⟨U, hsteps, hrun, hend, hW, hsame, ce, hce, hO⟩ := X₁.ctorThrow0 hexec htr (own := own) (cls := cls) (names := names) (ic := ic) hown' hcls hnames h (fun x hx => nomatch hx) hfX hkX hcellA (by rw [hhp, hT]; exact Nat.le_refl _)
    (g := { method := m, pc := pc + 4, locals := ls, stack := .ref T.heap.size :: .ref T.heap.size :: rest, locked := none }) rfl hsize rfl rfl (rest := rest) rfl
    (by rw [hb]; exact d4) (by rw [hb]; exact d7) hout hRframes (by simp only [List.map_cons, List.sum_cons, hcat]; omega) hlocks
  obtain ⟨f1, f2⟩ := vx_frame hsame
  rw [hhp] at f1 f2
  have hWs : s.WarmedH U.vm := State.WarmedH.trans hW0 hW
  have hcl : s.vm.findClass cls = some ce.cls := by
    have h9 := hO.cls
    rw [hvm] at h9
    exact h9
  have hall : s.sameButNew ({ U with vm := s.vm } : State) locs mc ms := by
    subst hA
    obtain ⟨e1, e2⟩ := hsame
    rw [State.setFrames_setFrames] at e1
    have h2 : (T.setVm s.vm).sameButNew ({ U with vm := s.vm } : State) [] (0 + 1) (0 + 6) := ⟨e1, e2⟩
    have h3 := X.same.trans h2
    rw [List.append_nil] at h3
    exact h3.mono hc hs
  refine ⟨U, ?_, .threw T.heap.size, hrun, hend, Or.inr ⟨T.heap.size, rfl, cls, ce, locs, hx U hWs.alike f1 (fun q hq => f2 q hq (fun z hz => nomatch hz)), hce, hO.vm, hcl, hWs, hall, hf⟩⟩
  refine st1 _ ?_
  show Steps p.tables e below (T1.setTop { method := m, pc := pc + 3, locals := ls, stack := .ref T.heap.size :: rest, locked := none }) _
  jvm_step X₁.here [X₁.here.top, hexec, d3', Value.category]
  exact hsteps
/-- 'throw new E("text")': new; dup; ldc; invokespecial; athrow -/
theorem vx_throwS {cc : ByteArray} {pc : Nat} (hexec : p.tables.exec = Jvm.exec) (hb : c.code = cc) (hl : l.stackTraces = false) {own cls text : String} {names : List String} {ik is ic mc ms sa : Nat} {A : Nat → Prop}
    (hown : s.vm.findClass own = some m.cls) (hcls : Bundle.fit cls = true) (hnames : ∀ n ∈ names, Bundle.fit n = true)
    (hk : (Cond.classLink own ik cls).before args s = true) (hini : (Cond.initialized cls).before args s = true) (hstr : vk_R own is text sa s) (hat : ∀ w ∈ vx_atS own ic cls names, w.before args s = true)
    (hgood : ∀ w ∈ Cond.classLink own ik cls :: Cond.initialized cls :: vx_atS own ic cls names, vx_ot w = true)
    (hU : vx_Zq Bundle.tN "UNASSIGNED_STACK" Bundle.steD A s s.heap) (hN : vx_Zq Bundle.tN "SUPPRESSED_SENTINEL" Bundle.listD A s s.heap) (hS : va_S A s.heap H locs) (hsize : ls.size = c.maxLocals)
    (d0 : decode cc pc = .ok (.new ik, 3)) (d3 : decode cc (pc + 3) = .ok (.dup, 1)) (d4 : decode cc (pc + 4) = .ok (.ldc is, 2)) (d6 : decode cc (pc + 6) = .ok (.invokespecial ic, 3)) (d9 : decode cc (pc + 9) = .ok (.athrow, 1))
    (hout : ∀ x ∈ c.exceptionTable.toList, covers x (pc + 9) = false)
    (hRframes : names.length + 3 < R.frames) (hRlocals : (rest.map fun v => v.category).sum + (13 * (names.length + 1) + 43) ≤ R.locals) (hRcells : cells + 1 ≤ R.cells) (hRslots : slots + 6 ≤ R.slots) (hlocks : meth.locks = false)
    (hx : ∀ t : State, s.vm.Alike t.vm → H.size ≤ t.heap.size → (∀ q : Nat, q < H.size → t.heap[q]? = H[q]?) → XC cls s t)
    (hf : ∀ z ∈ locs, free z.base) (hc : cells + 1 ≤ mc) (hs : slots + 6 ≤ ms) :
    W p l e R s m args below meth c H locs cells slots (vx_MQ below Qc XC args s mc ms free) (F0 m pc ls rest) := by
  intro T hT X
  have htr : e.platform.stackTraces = false := (show e.platform.stackTraces = l.stackTraces by rw [X.admits.platform]).trans hl
  have Y := vx_rebase X (R' := { frames := R.frames, locals := R.locals, cells := 1, slots := 6 }) (Nat.le_refl _) (Nat.le_refl _) hRcells hRslots
  obtain ⟨s', hA⟩ : ∃ z, z = (T.setVm s.vm).setFrames (.invoking m args :: below) := ⟨_, rfl⟩
  rw [← hA] at Y
  have hvm : s'.vm = s.vm := by rw [hA]; rfl
  have hhp : s'.heap = H := by rw [hA]; exact hT
  have hW0 : s.WarmedH s'.vm := by rw [hvm]; exact State.WarmedH.refl s
  have hat' : ∀ w ∈ vx_atS own ic cls names, w.before args s' = true := fun w hw => vx_ot_at hW0 hvm.symm (hgood w (List.mem_cons_of_mem _ (List.mem_cons_of_mem _ hw))) (hat w hw)
  have hk' : (Cond.classLink own ik cls).before args s' = true := vx_ot_at hW0 hvm.symm (hgood _ List.mem_cons_self) hk
  have hini' : (Cond.initialized cls).before args s' = true := vx_ot_at hW0 hvm.symm (hgood _ (List.mem_cons_of_mem _ List.mem_cons_self)) hini
  have hU' : vx_Zq Bundle.tN "UNASSIGNED_STACK" Bundle.steD A s' s'.heap := by rw [hhp]; exact vx_Zq.moved hW0.alike (hU.kept hS.2.1)
  have hN' : vx_Zq Bundle.tN "SUPPRESSED_SENTINEL" Bundle.listD A s' s'.heap := by rw [hhp]; exact vx_Zq.moved hW0.alike (hN.kept hS.2.1)
  have h : ∀ w ∈ Bundle.ownAtoms own ic cls names, w.before args s' = true := vx_own hat' (vx_isRefq hU'.1) (vx_isRefq hN'.1) hU'.2.word hN'.2.word
  have hown' : s'.vm.findClass own = some m.cls := by rw [hvm]; exact hown
  have hins : (Cond.instantiable cls 6).before args s' = true := h _ (by simp [Bundle.ownAtoms])
  obtain ⟨vm₁, cX, kX, hfX, hkX, -, -, X₁, st1⟩ := Y.newCold hexec (own := own) (C := cls) (index := ik) (n := 6) hown' hk' hins hini'
    (g := F0 m pc ls rest) rfl (by rw [hb]; exact d0) (Nat.le_refl _) (Nat.le_refl _)
  generalize hT1 : (T.setVm vm₁).pushCell { cls := cX, slots := kX.instanceTypes.map defaultValue, vm := .none } = T1 at X₁ st1
  have hcat : (Value.ref T.heap.size).category = 1 := rfl
  have hcellA : T1.heap[T.heap.size]? = some (freshCell cX kX) := by rw [← hT1]; exact State.heap_pushCell_size _ _
  have d3' : decode c.code (pc + 3) = .ok (.dup, 1) := by rw [hb]; exact d3
  have d4' : decode c.code (pc + 4) = .ok (.ldc is, 2) := by rw [hb]; exact d4
  have hstr' : vk_R own is text sa s' := vk_R.warm hW0 hstr
  obtain ⟨U, hsteps, hrun, hend, hW, hsame, ce, hce, hO⟩ := X₁.ctorThrowS hexec htr (own := own) (cls := cls) (names := names) (ic := ic) hown' hcls hnames h (fun x hx => nomatch hx) hfX hkX hcellA (by rw [hhp, hT]; exact Nat.le_refl _) (msg := .ref sa) rfl
    (g := { method := m, pc := pc + 6, locals := ls, stack := .ref sa :: .ref T.heap.size :: .ref T.heap.size :: rest, locked := none }) rfl hsize rfl rfl (rest := rest) rfl
    (by rw [hb]; exact d6) (by rw [hb]; exact d9) hout hRframes (by simp only [List.map_cons, List.sum_cons, hcat]; omega) hlocks
  obtain ⟨f1, f2⟩ := vx_frame hsame
  rw [hhp] at f1 f2
  have hWs : s.WarmedH U.vm := State.WarmedH.trans hW0 hW
  have hcl : s.vm.findClass cls = some ce.cls := by
    have h9 := hO.cls
    rw [hvm] at h9
    exact h9
  have hall : s.sameButNew ({ U with vm := s.vm } : State) locs mc ms := by
    subst hA
    obtain ⟨e1, e2⟩ := hsame
    rw [State.setFrames_setFrames] at e1
    have h2 : (T.setVm s.vm).sameButNew ({ U with vm := s.vm } : State) [] (0 + 1) (0 + 6) := ⟨e1, e2⟩
    have h3 := X.same.trans h2
    rw [List.append_nil] at h3
    exact h3.mono hc hs
  refine ⟨U, ?_, .threw T.heap.size, hrun, hend, Or.inr ⟨T.heap.size, rfl, cls, ce, locs, hx U hWs.alike f1 (fun q hq => f2 q hq (fun z hz => nomatch hz)), hce, hO.vm, hcl, hWs, hall, hf⟩⟩
  refine st1 _ ?_
  show Steps p.tables e below (T1.setTop { method := m, pc := pc + 3, locals := ls, stack := .ref T.heap.size :: rest, locked := none }) _
  jvm_step X₁.here [X₁.here.top, hexec, d3', Value.category]
  exact X₁.ldcString hexec (own := own) (text := text) (index := is) (a := sa) hown' hstr'.1 hstr'.2
    (g := { method := m, pc := pc + 4, locals := ls, stack := .ref T.heap.size :: .ref T.heap.size :: rest, locked := none }) rfl d4' _ hsteps
/-- 'throw new E("text")', the text by a wide index -/
theorem vx_throwSW {cc : ByteArray} {pc : Nat} (hexec : p.tables.exec = Jvm.exec) (hb : c.code = cc) (hl : l.stackTraces = false) {own cls text : String} {names : List String} {ik is ic mc ms sa : Nat} {A : Nat → Prop}
    (hown : s.vm.findClass own = some m.cls) (hcls : Bundle.fit cls = true) (hnames : ∀ n ∈ names, Bundle.fit n = true)
    (hk : (Cond.classLink own ik cls).before args s = true) (hini : (Cond.initialized cls).before args s = true) (hstr : vk_R own is text sa s) (hat : ∀ w ∈ vx_atS own ic cls names, w.before args s = true)
    (hgood : ∀ w ∈ Cond.classLink own ik cls :: Cond.initialized cls :: vx_atS own ic cls names, vx_ot w = true)
    (hU : vx_Zq Bundle.tN "UNASSIGNED_STACK" Bundle.steD A s s.heap) (hN : vx_Zq Bundle.tN "SUPPRESSED_SENTINEL" Bundle.listD A s s.heap) (hS : va_S A s.heap H locs) (hsize : ls.size = c.maxLocals)
    (d0 : decode cc pc = .ok (.new ik, 3)) (d3 : decode cc (pc + 3) = .ok (.dup, 1)) (d4 : decode cc (pc + 4) = .ok (.ldc_w is, 3)) (d7 : decode cc (pc + 7) = .ok (.invokespecial ic, 3)) (d10 : decode cc (pc + 10) = .ok (.athrow, 1))
    (hout : ∀ x ∈ c.exceptionTable.toList, covers x (pc + 10) = false)
    (hRframes : names.length + 3 < R.frames) (hRlocals : (rest.map fun v => v.category).sum + (13 * (names.length + 1) + 43) ≤ R.locals) (hRcells : cells + 1 ≤ R.cells) (hRslots : slots + 6 ≤ R.slots) (hlocks : meth.locks = false)
    (hx : ∀ t : State, s.vm.Alike t.vm → H.size ≤ t.heap.size → (∀ q : Nat, q < H.size → t.heap[q]? = H[q]?) → XC cls s t)
    (hf : ∀ z ∈ locs, free z.base) (hc : cells + 1 ≤ mc) (hs : slots + 6 ≤ ms) :
    W p l e R s m args below meth c H locs cells slots (vx_MQ below Qc XC args s mc ms free) (F0 m pc ls rest) := by
  intro T hT X
  have htr : e.platform.stackTraces = false := (show e.platform.stackTraces = l.stackTraces by rw [X.admits.platform]).trans hl
  have Y := vx_rebase X (R' := { frames := R.frames, locals := R.locals, cells := 1, slots := 6 }) (Nat.le_refl _) (Nat.le_refl _) hRcells hRslots
  obtain ⟨s', hA⟩ : ∃ z, z = (T.setVm s.vm).setFrames (.invoking m args :: below) := ⟨_, rfl⟩
  rw [← hA] at Y
  have hvm : s'.vm = s.vm := by rw [hA]; rfl
  have hhp : s'.heap = H := by rw [hA]; exact hT
  have hW0 : s.WarmedH s'.vm := by rw [hvm]; exact State.WarmedH.refl s
  have hat' : ∀ w ∈ vx_atS own ic cls names, w.before args s' = true := fun w hw => vx_ot_at hW0 hvm.symm (hgood w (List.mem_cons_of_mem _ (List.mem_cons_of_mem _ hw))) (hat w hw)
  have hk' : (Cond.classLink own ik cls).before args s' = true := vx_ot_at hW0 hvm.symm (hgood _ List.mem_cons_self) hk
  have hini' : (Cond.initialized cls).before args s' = true := vx_ot_at hW0 hvm.symm (hgood _ (List.mem_cons_of_mem _ List.mem_cons_self)) hini
  have hU' : vx_Zq Bundle.tN "UNASSIGNED_STACK" Bundle.steD A s' s'.heap := by rw [hhp]; exact vx_Zq.moved hW0.alike (hU.kept hS.2.1)
  have hN' : vx_Zq Bundle.tN "SUPPRESSED_SENTINEL" Bundle.listD A s' s'.heap := by rw [hhp]; exact vx_Zq.moved hW0.alike (hN.kept hS.2.1)
  have h : ∀ w ∈ Bundle.ownAtoms own ic cls names, w.before args s' = true := vx_own hat' (vx_isRefq hU'.1) (vx_isRefq hN'.1) hU'.2.word hN'.2.word
  have hown' : s'.vm.findClass own = some m.cls := by rw [hvm]; exact hown
  have hins : (Cond.instantiable cls 6).before args s' = true := h _ (by simp [Bundle.ownAtoms])
  obtain ⟨vm₁, cX, kX, hfX, hkX, -, -, X₁, st1⟩ := Y.newCold hexec (own := own) (C := cls) (index := ik) (n := 6) hown' hk' hins hini'
    (g := F0 m pc ls rest) rfl (by rw [hb]; exact d0) (Nat.le_refl _) (Nat.le_refl _)
  generalize hT1 : (T.setVm vm₁).pushCell { cls := cX, slots := kX.instanceTypes.map defaultValue, vm := .none } = T1 at X₁ st1
  have hcat : (Value.ref T.heap.size).category = 1 := rfl
  have hcellA : T1.heap[T.heap.size]? = some (freshCell cX kX) := by rw [← hT1]; exact State.heap_pushCell_size _ _
  have d3' : decode c.code (pc + 3) = .ok (.dup, 1) := by rw [hb]; exact d3
  have d4' : decode c.code (pc + 4) = .ok (.ldc_w is, 3) := by rw [hb]; exact d4
  have hstr' : vk_R own is text sa s' := vk_R.warm hW0 hstr
  obtain ⟨U, hsteps, hrun, hend, hW, hsame, ce, hce, hO⟩ := X₁.ctorThrowS hexec htr (own := own) (cls := cls) (names := names) (ic := ic) hown' hcls hnames h (fun x hx => nomatch hx) hfX hkX hcellA (by rw [hhp, hT]; exact Nat.le_refl _) (msg := .ref sa) rfl
    (g := { method := m, pc := pc + 7, locals := ls, stack := .ref sa :: .ref T.heap.size :: .ref T.heap.size :: rest, locked := none }) rfl hsize rfl rfl (rest := rest) rfl
    (by rw [hb]; exact d7) (by rw [hb]; exact d10) hout hRframes (by simp only [List.map_cons, List.sum_cons, hcat]; omega) hlocks
  obtain ⟨f1, f2⟩ := vx_frame hsame
  rw [hhp] at f1 f2
  have hWs : s.WarmedH U.vm := State.WarmedH.trans hW0 hW
  have hcl : s.vm.findClass cls = some ce.cls := by
    have h9 := hO.cls
    rw [hvm] at h9
    exact h9
  have hall : s.sameButNew ({ U with vm := s.vm } : State) locs mc ms := by
    subst hA
    obtain ⟨e1, e2⟩ := hsame
    rw [State.setFrames_setFrames] at e1
    have h2 : (T.setVm s.vm).sameButNew ({ U with vm := s.vm } : State) [] (0 + 1) (0 + 6) := ⟨e1, e2⟩
    have h3 := X.same.trans h2
    rw [List.append_nil] at h3
    exact h3.mono hc hs
  refine ⟨U, ?_, .threw T.heap.size, hrun, hend, Or.inr ⟨T.heap.size, rfl, cls, ce, locs, hx U hWs.alike f1 (fun q hq => f2 q hq (fun z hz => nomatch hz)), hce, hO.vm, hcl, hWs, hall, hf⟩⟩
  refine st1 _ ?_
  show Steps p.tables e below (T1.setTop { method := m, pc := pc + 3, locals := ls, stack := .ref T.heap.size :: rest, locked := none }) _
  jvm_step X₁.here [X₁.here.top, hexec, d3', Value.category]
  exact X₁.ldcStringW hexec (own := own) (text := text) (index := is) (a := sa) hown' hstr'.1 hstr'.2
    (g := { method := m, pc := pc + 4, locals := ls, stack := .ref T.heap.size :: .ref T.heap.size :: rest, locked := none }) rfl d4' _ hsteps
end Ends
section Bodies
variable {l : Launch}
theorem vx_ofW {y : MethodName} {ws ws' : List Cond} {rm : Room} {Pc : Array Value → State → Prop} {Qc : Array Value → State → Outcome → State → Prop} {XC : String → State → State → Prop} {mc ms : Nat} {free : Addr → Prop} {cc : ByteArray} {maxL : Nat} {ret : Option FieldType}
    (hy : plainName y.cls = true) (hw : ws = Cond.code y cc maxL ret :: ws')
    (body : ∀ p e s m args below meth c s₁, BodyLoose p l y (headSpec ws rm) cc maxL ret e s m args below meth c s₁ → c.maxLocals = maxL → (∀ x ∈ c.exceptionTable.toList, False) → Pc args s →
      W p l e (headSpec ws rm).room s m args below meth c s.heap [] 0 0 (vx_MQ below Qc XC args s mc ms free) (entryFrame m args maxL)) : vx_Met l y ws rm Pc Qc XC mc ms free := by
  refine MetFree.of_bodyS (code := cc) (maxLocals := maxL) (ret := ret) hy ?_ ?_
  · intro args s m h hn
    obtain ⟨meth, c, h1, h2, h3, h4, h5, h6, -, -⟩ := Cond.code_spec hn (atoms_spec (ws := ws) h _ (by rw [hw]; exact List.mem_cons_self))
    exact ⟨meth, c, h1, h2, h3, h4, h5, h6⟩
  · intro p e s m args below meth c s₁ B hml hP _
    have hh0 : s₁.heap = s.heap := by rw [B.state]; rfl
    have ht : ∀ x ∈ c.exceptionTable.toList, False := by
      obtain ⟨meth9, c9, h1, h2, -, -, -, -, h7, -⟩ := Cond.code_spec B.named (atoms_spec (ws := ws) B.pre _ (by rw [hw]; exact List.mem_cons_self))
      cases Option.some.inj (h1.symm.trans B.method)
      cases Option.some.inj (h2.symm.trans (Stand.of_body B).code)
      intro x hx
      rw [Array.isEmpty_iff.mp h7] at hx
      cases hx
    obtain ⟨t, a1, o, b1, b2, b3⟩ := body p e s m args below meth c s₁ B hml ht hP s₁ hh0 (Stand.of_body B)
    exact ⟨t, o, a1, b1, b2, b3⟩
/-- the table of a body with handlers -/
theorem vx_table {p : Program} {x y : MethodName} {S : Spec} {cc bytes : ByteArray} {maxL maxL' : Nat} {ret ret' : Option FieldType} {e : Env} {s s₁ : State} {m : MethodId} {args : Array Value} {below : List Frame} {meth : Method} {c : Code} {hh : List (Nat × Nat × Nat × Nat)}
    (B : BodyLoose p l y S cc maxL ret e s m args below meth c s₁) (h : (Cond.codeWith y bytes maxL' ret' hh).before args s = true) : c.exceptionTable.toList = tableOf hh := by
  obtain ⟨m9, meth9, c9, hn9, h1, h2, -, -, h6, -⟩ := Cond.codeWith_spec h
  cases Option.some.inj (hn9.symm.trans B.named)
  cases Option.some.inj (h1.symm.trans B.method)
  cases Option.some.inj (h2.symm.trans (Stand.of_body B).code)
  rw [← h6, table_eq]
end Bodies
end VXA
/-! ===== END ===== -/
/-! ===== BEGIN a static call of a method with an exception table ===== -/
section VXS
variable {p : Program} {l : Launch} {e : Env} {R : Room} {s : State} {m : MethodId} {args : Array Value} {below : List Frame} {meth : Method} {c : Code} {T : State} {H : Heap} {locs : List Loc} {cells slots : Nat}
abbrev vx_CSW (R : Room) (s : State) (args : Array Value) (own : String) (index : Nat) (y : MethodName) (bytes : ByteArray) (maxL : Nat) (ret : Option FieldType) (hh : List (Nat × Nat × Nat × Nat)) (ws : List Cond) (rm : Room) (mc ms n : Nat) : Prop :=
  (rm.cells = mc ∧ rm.slots = ms ∧ rm.frames + 1 ≤ R.frames ∧ 8 + (maxL + 11) + rm.locals ≤ R.locals ∧ (∀ w ∈ ws, ∀ (a' : Array Value) (U : State), s.WarmedH U.vm → w.before a' U = true) ∧ Cond.codeWith y bytes maxL ret hh ∈ ws) ∧
  (Cond.codeWith y bytes maxL ret hh).before args s = true ∧ (Cond.initialized y.cls).before args s = true ∧ (y.cls ≠ "java/lang/invoke/MethodHandle" ∧ y.cls ≠ "java/lang/invoke/VarHandle") ∧
  (∀ sig, parseMethodDescriptor y.desc = some sig → n = sig.parameters.length) ∧ (Cond.methodLink own index y).before args s = true ∧ (Cond.static y).before args s = true
theorem vx_cwSW {own : String} {index maxL mc ms : Nat} {y : MethodName} {bytes : ByteArray} {ret : Option FieldType} {hh : List (Nat × Nat × Nat × Nat)} {Ts ws ws' : List Cond} {rm : Room} (n : Nat) (ht : ∀ w ∈ Ts, w.before args s = true) (hT : GoodIn Ts (va_wsS own index y ws)) (hw : ws = Cond.codeWith y bytes maxL ret hh :: ws') (hrc : rm.cells = mc) (hrs : rm.slots = ms)
    (hd : y.cls ≠ "java/lang/invoke/MethodHandle" ∧ y.cls ≠ "java/lang/invoke/VarHandle" ∧ (parseMethodDescriptor y.desc).map (fun d => d.parameters.length) = some n) (hR : rm.frames + 1 ≤ R.frames ∧ 8 + (maxL + 11) + rm.locals ≤ R.locals) :
    vx_CSW R s args own index y bytes maxL ret hh ws rm mc ms n := by
  have ok : ∀ w ∈ va_wsS own index y ws, w.before args s = true := fun w h => ht w (hT w h).1
  have hG : GoodIn Ts ws := fun w h => hT w (by unfold va_wsS; exact List.mem_append_right _ h)
  have hc : Cond.codeWith y bytes maxL ret hh ∈ ws := by rw [hw]; exact List.mem_cons_self
  refine ⟨⟨hrc, hrs, hR.1, hR.2, pay_in ht hG, hc⟩, ht _ (hG _ hc).1, ok _ (by simp [va_wsS]), ⟨hd.1, hd.2.1⟩, fun sig h => ?_, ok _ (by simp [va_wsS]), ok _ (by simp [va_wsS])⟩
  have h2 := hd.2.2
  rw [h] at h2
  exact (Option.some.inj h2).symm
theorem vx_callSW (X : Stand p l e R s m args below meth c T locs cells slots) (hexec : p.tables.exec = Jvm.exec) {own : String} {index : Nat} {y : MethodName} {bytes : ByteArray} {maxL : Nat} {ret : Option FieldType} {hh : List (Nat × Nat × Nat × Nat)}
    (hown : s.vm.findClass own = some m.cls) (hlink : (Cond.methodLink own index y).before args s = true) (hstat : (Cond.static y).before args s = true) (hinit : (Cond.initialized y.cls).before args s = true)
    (hcode : (Cond.codeWith y bytes maxL ret hh).before args s = true) (hy : y.cls ≠ "java/lang/invoke/MethodHandle" ∧ y.cls ≠ "java/lang/invoke/VarHandle")
    {W9 : Nat} {Pre : Pt → Array Value → Prop} {Post : Pt → Array Value → Option Value → Pt → Prop} (hK : Back l R p e below s args y 3 W9 Pre Post)
    {g : JFrame} (hg : g.method = m) (hsize : g.locals.size = c.maxLocals) {argsL rest : List Value} (hlen : ∀ sig, parseMethodDescriptor y.desc = some sig → argsL.length = sig.parameters.length)
    (hstack : g.stack = argsL.reverse ++ rest) (hW : 2 * g.monitorRoom + (rest.map fun v => v.category).sum ≤ W9) (hdg : decode c.code g.pc = .ok (.invokestatic index, 3))
    (hpre : ∀ vm₁, s.WarmedH vm₁ → Pre ⟨T.setVm vm₁, locs, cells, slots⟩ argsL.toArray) :
    ∃ (v : Option Value) (vm₁ : Vm) (B : Pt), s.WarmedH vm₁ ∧ Stand p l e R s m args below meth c B.U B.locs B.cells B.slots ∧ Post ⟨T.setVm vm₁, locs, cells, slots⟩ argsL.toArray v B ∧
      ∀ target, Steps p.tables e below (B.U.setTop { g with pc := g.pc + 3, stack := v.toList ++ rest }) target → Steps p.tables e below (T.setTop g) target := by
  obtain ⟨mk, methM, cM, hnamed, hmethM, -, -, -, -, -, -, hsigM⟩ := Cond.codeWith_spec hcode
  have hstatic : methM.isStatic = true := Cond.static_spec hnamed hmethM hstat
  obtain ⟨kP, hkP, -⟩ := className_of_methodNamed hnamed
  have hinitP : kP.init = .initialized := Cond.initialized_spec (findClass_of_methodNamed hnamed) hkP hinit
  obtain ⟨vm₁, X₁, hstep₁⟩ := X.invokestatic hexec hown hlink hnamed hmethM hstatic hkP hinitP hy (g := g) hg (argsL := argsL) (rest := rest) (hlen _ hsigM) hstack hdg
  obtain ⟨v, B, X', hpost, hsteps⟩ := hK m meth c ⟨T.setVm vm₁, locs, cells, slots⟩ { g with stack := rest } (.invokestatic index) mk argsL.toArray X₁ hg hsize hdg hW (X₁.named hnamed) (hpre vm₁ X₁.warmed)
  exact ⟨v, vm₁, B, X₁.warmed, X', hpost, fun target h => hstep₁ _ fun acts => by rw [doInvoke_state]; exact hsteps.trans h⟩
theorem vx_runSW {y : MethodName} {bytes cc : ByteArray} {maxL nL mc ms n index : Nat} {ret : Option FieldType} {hh : List (Nat × Nat × Nat × Nat)} {ws : List Cond} {rm : Room} {Pc : Array Value → State → Prop} {Qc : Array Value → State → Outcome → State → Prop} {free : Addr → Prop} {Ts : List Cond} {own : String} {As rest : List Value} {g : JFrame}
    (S : CallFix p m c cc nL s args Ts own) (hM : Met l y ws rm Pc Qc mc ms free) (cw : vx_CSW R s args own index y bytes maxL ret hh ws rm mc ms n) (hp : PreS s H Pc As)
    (hg : g.method = m) (hn : As.length = n) (hsize : g.locals.size = nL) (hstack : g.stack = As.reverse ++ rest) (hW : 2 * g.monitorRoom + (rest.map fun v => v.category).sum ≤ 8) (hdg : decode cc g.pc = .ok (.invokestatic index, 3)) (hf : cells + mc ≤ R.cells ∧ slots + ms ≤ R.slots) :
    va_Run p l e R s m args below meth c H locs cells slots mc ms g rest (Qc As.toArray) (free) := by
  obtain ⟨⟨hrc, hrs, hfr, hlo, hws, hcw⟩, hcode, hini, hy, hlen, hl, hstt⟩ := cw
  have hK : Back l R p e below s args y 3 8 (PreOf R mc ms Pc) (PostOf Qc mc ms free) := va_backW (hh := hh) (bytes := bytes) (maxL := maxL) (ret := ret) hM hp.1 hrc hrs hfr hlo hws hcw (fun a' U hW => word_at hW (Or.inl (by first | rfl | simp [Cond.onTables, Cond.keeps, Cond.steady])) hini)
  obtain ⟨hx, hb, hml, ho, -⟩ := S
  intro T hT X
  obtain ⟨v, vm₁, ⟨U', l2, c2, s2⟩, hW₁, X', ⟨g', mk, t, L, e1, e2, hq, h1, hL, h2, h3⟩, st⟩ := vx_callSW X hx (hh := hh) (bytes := bytes) (maxL := maxL) (ret := ret) ho hl hstt hini hcode hy hK hg (hsize.trans hml.symm) (argsL := As) (rest := rest) (fun sig h => hn.trans (hlen sig h)) hstack hW (by rw [hb]; exact hdg)
    (fun vm₁ hW₁ => ⟨hf.1, hf.2, hp.2 (T.setVm vm₁) hT hW₁⟩)
  dsimp only [Pt.U, Pt.locs, Pt.cells, Pt.slots] at X' e1 e2 h1 h2 h3 st
  subst h1; subst h2; subst h3
  exact ⟨v, (T.setVm vm₁).calling g' mk As.toArray, t, U', L, hT, X', hL, e1, e2, hq, st⟩
/-- not caught here, past rows that name other classes: it goes on to the caller -/
theorem vx_outP {p : Program} {l : Launch} {e : Env} {R : Room} {s : State} {m : MethodId} {args : Array Value} {below : List Frame} {meth : Method} {c : Code} {H : Heap} {locs : List Loc} {cells slots : Nat} {free : Addr → Prop} {ls : Array Slot} {rest : List Value} {Qc : Array Value → State → Outcome → State → Prop} {XC : String → State → State → Prop}
    {pc : Nat} {own E : String} {ce : Cell} {q : Addr} {mc ms : Nat} (hown : s.vm.findClass own = some m.cls) (hlocks : meth.locks = false)
    (hpass : ∀ z ∈ c.exceptionTable.toList, covers z pc = false ∨ (z.catchType ≠ 0 ∧ ∃ nm : String, (Cond.classLink own z.catchType nm).before args s = true ∧ va_Nc E nm s)) (hcell : H[q]? = some ce) (hv : ce.vm = .none) (hcl : s.vm.findClass E = some ce.cls)
    (hx : ∀ t : State, t.heap = H → s.vm.Alike t.vm → XC E s t) (hf : ∀ z ∈ locs, free z.base) (hc : cells ≤ mc) (hs : slots ≤ ms) :
    vx_W p l e R s m args below meth c H locs cells slots (vx_MQ below Qc XC args s mc ms free) (F0 m pc ls rest) q := by
  intro T hT X
  have hpl : e.platform.magicAccessors = ({} : Platform).magicAccessors := by rw [X.admits.platform]
  obtain ⟨vm', hW', X', st⟩ := X.outThrough hlocks q (g := F0 m pc ls rest) rfl rfl rfl (cell := ce) (by rw [hT]; exact hcell) (by rw [hv]; rfl)
    (by obtain ⟨k9, h9, -⟩ := Vm.findClass_spec hcl; exact ⟨k9, h9⟩) (fun z hz => by
      rcases hpass z hz with h | ⟨hz0, nm, hl1, hn1⟩
      · exact Or.inl h
      · obtain ⟨c6, hc6, hcl6⟩ := Cond.classLink_spec hown hl1 e.platform hpl
        obtain ⟨a8, b8, h1, h2, h3⟩ := hn1
        cases Option.some.inj (h1.symm.trans hcl)
        cases Option.some.inj (h2.symm.trans hc6)
        exact Or.inr ⟨hz0, _, hcl6, h3⟩)
  obtain ⟨g₀, hfr⟩ := X'.frames_eq
  have hcell9 : ((T.setVm vm').setFrames (.throwing q :: below)).heap[q]? = some ce := by
    show T.heap[q]? = some ce
    rw [hT]; exact hcell
  have hend : Ended ((T.setVm vm').setFrames (.throwing q :: below)) below (.threw q) := State.frames_setFrames _ (State.cur_lt_of_frames hfr)
  refine ⟨(T.setVm vm').setFrames (.throwing q :: below), ?_, .threw q, X'.here.running, hend, Or.inr ⟨q, rfl, E, ce, locs, hx _ hT (X'.ends _).1.alike, hcell9, hv, hcl, (X'.ends _).1, (X'.ends _).2.mono hc hs, hf⟩⟩
  rw [X.pushThrowing_eq]
  exact st
/-- a thing of a world lies in the heap -/
theorem vx_lt {D : va_G} {cl : List vw_C} {ws : va_W} {H1 : Heap} (h : va_P D cl ws H1) {k : Nat} {q : Nat × va_E} (hk : ws[k]? = some q) : q.1 < H1.size := (h k q hk).lt
end VXS
/-! ===== END ===== -/
/-! ===== BEGIN methods with a table of their own: called by a name, returning or throwing ===== -/
section VXH
/-! vx_backW, vx_callVX, vx_callSX, vx_callVW, vx_runVW, vx_runVX, vx_runSX, vx_ofWH follow the same proofs as their sisters above (Free/Laws.lean, Shelf42/LK1.lean); vx_outP calls Shelf42/NT130.lean (outThrough). -/
section
variable {l : Launch} {R : Room} {p : Program} {e : Env} {below : List Frame} {s : State} {sargs : Array Value} {y : MethodName} {len W9 : Nat}
theorem vx_backW {ws : List Cond} {rm : Room} {Pc : Array Value → State → Prop} {Qc : Array Value → State → Outcome → State → Prop} {XC : String → State → State → Prop} {mc ms : Nat} {free : Addr → Prop} {bytes : ByteArray} {maxL : Nat} {ret : Option FieldType} {hh : List (Nat × Nat × Nat × Nat)}
    (hM : vx_Met l y ws rm Pc Qc XC mc ms free) (hblind : FrameBlind Pc) (hrc : rm.cells = mc) (hrs : rm.slots = ms)
    (hframes : rm.frames + 1 ≤ R.frames) (hlocals : W9 + (maxL + 11) + rm.locals ≤ R.locals)
    (hws : ∀ w ∈ ws, ∀ a' U, s.WarmedH U.vm → w.before a' U = true) (hcode : Cond.codeWith y bytes maxL ret hh ∈ ws) (hinit : ∀ a' U, s.WarmedH U.vm → (Cond.initialized y.cls).before a' U = true) :
    vx_Back l R p e below s sargs y len W9 (PreOf R mc ms Pc) (PostOf Qc mc ms free) (vx_Post XC mc ms free) := by
  intro m meth c A g ig mk a X hg hsize hdg hW hn hp
  have h1 : (headSpec ws rm).pre.before a A.U = true := atoms_intro fun w hw => hws w hw _ _ X.warmed
  have h2 : (Cond.codeWith y bytes maxL ret hh).before a A.U = true := hws _ hcode _ _ X.warmed
  have h3 : (Cond.initialized y.cls).before a A.U = true := hinit _ _ X.warmed
  have h4 : A.cells + (headSpec ws rm).room.cells ≤ R.cells := by rw [show (headSpec ws rm).room.cells = mc from hrc]; exact hp.1
  have h5 : A.slots + (headSpec ws rm).room.slots ≤ R.slots := by rw [show (headSpec ws rm).room.slots = ms from hrs]; exact hp.2.1
  have hPc : Pc a (A.U.calling g mk a) := hblind _ _ _ _ hp.2.2
  obtain ⟨U, Ls, c0, s0⟩ := A
  dsimp only [Pt.U, Pt.locs, Pt.cells, Pt.slots] at h1 h2 h3 h4 h5 X hn hPc ⊢
  obtain ⟨m9, methY, cY, hn9, hmY, hcY, -, hlY, -⟩ := Cond.codeWith_spec h2
  cases Option.some.inj (hn9.symm.trans hn)
  obtain ⟨kY, hkY, -⟩ := className_of_methodNamed hn
  have hinitY : kY.init = .initialized := Cond.initialized_spec (findClass_of_methodNamed hn) hkY h3
  have h : At U g.method c below := by rw [hg]; exact X.here
  have hlocals9 : W9 + (maxL + 11) + (headSpec ws rm).room.locals ≤ R.locals := hlocals
  have happ : (headSpec ws rm).appliesLoose y e.platform (U.calling g mk a) = true :=
    Spec.appliesLoose_calling (g := g) h hdg hn hkY hinitY
      (X.room_calling (g := g) (R' := (headSpec ws rm).room) hsize hmY hcY hframes (by rw [hlY]; omega) h4 h5) h1
  obtain ⟨mid, hmid⟩ := h.above
  have hfr : (U.setTop g).frames = (.java g :: mid) ++ below := by rw [State.frames_setTop' g h.top, hmid]; rfl
  obtain ⟨o, s₂, hsteps, -, hend, hq⟩ := Steps.callFree hM p X.admits X.cas X.clock (acts := []) hfr happ hPc trivial
  have hq' : vx_Q Qc XC mc ms free a (U.calling g mk a) o s₂ := hq
  rw [State.frames_setTop' g h.top] at hend
  obtain ⟨g₀, hg0⟩ := Option.isSome_iff_exists.mp h.top
  obtain ⟨r, hr⟩ := State.topJava?_eq_some.mp hg0
  have hr' : (({ U with heap := s₂.heap, slotsUsed := s₂.slotsUsed } : State).setVm s₂.vm).frames = .java g₀ :: r := hr
  rcases hq' with ⟨hqc, L, hfe, hL⟩ | ⟨q, rfl, E, ce, L, hx, hce, hcv, hcl, hW₂, hsm, hL⟩
  · obtain ⟨⟨v, rfl⟩, hW₂, e2, q2, q3, q4, q5, q6⟩ := id hfe
    have e3 : s₂ = ({ (U.calling g mk a).setFrames s₂.frames with heap := s₂.heap, slotsUsed := s₂.slotsUsed } : State).setVm s₂.vm := by
      have : s₂ = ({ s₂ with vm := (U.calling g mk a).vm } : State).setVm s₂.vm := rfl
      rw [e2] at this
      exact this
    obtain ⟨c₂, i₂, len₂, hc₂, hd₂, hf₂⟩ := hend
    have hW' : U.WarmedH s₂.vm := hW₂
    have hcc : c₂ = c := by
      have h1 : s₂.code? g.method = U.code? g.method := by
        rw [State.code?_eq, State.code?_eq, hW'.alike.method?]
      exact Option.some.inj (hc₂.symm.trans (h1.trans h.code))
    subst hcc
    have hlen : len₂ = len := by rw [hdg] at hd₂; cases hd₂; rfl
    subst hlen
    have hs₂ : s₂ = (({ U with heap := s₂.heap, slotsUsed := s₂.slotsUsed } : State).setVm s₂.vm).setTop { g with pc := g.pc + len₂, stack := v.toList ++ g.stack } := by
      refine e3.trans ?_
      rw [hf₂, State.calling_eq h.top, State.setFrames_setFrames, State.setTop_of_frames _ hr', hr]
      rfl
    have hsame : U.sameButNew ({ U with heap := s₂.heap, slotsUsed := s₂.slotsUsed } : State) L mc ms := by
      refine ⟨?_, q2, q3, q4, q5, q6⟩
      obtain ⟨t, ht, -⟩ := State.frames_cons hr
      show ({ U with heap := s₂.heap, slotsUsed := s₂.slotsUsed } : State) = { U.setFrames U.frames with heap := s₂.heap, slotsUsed := s₂.slotsUsed }
      rw [State.setFrames_self ht]
    subst hg
    refine Or.inl ⟨v, ⟨(({ U with heap := s₂.heap, slotsUsed := s₂.slotsUsed } : State).setVm s₂.vm), Ls ++ L, c0 + mc, s0 + ms⟩,
      ⟨X.admits, X.cas, X.clock, X.frames, X.room, X.hears, X.method, X.code, (X.here.setHeapUsed s₂.heap s₂.slotsUsed).setVm hW'.alike, X.tail, State.WarmedH.trans X.warmed hW', X.limits, X.bytes, X.same.trans (hsame.setVm s.vm)⟩,
      ⟨g, mk, s₂, L, rfl, rfl, hqc, rfl, hL, rfl, rfl⟩, ?_⟩
    show Steps p.tables e below _ ((({ U with heap := s₂.heap, slotsUsed := s₂.slotsUsed } : State).setVm s₂.vm).setTop { g with pc := g.pc + len₂, stack := v.toList ++ g.stack })
    rw [← hs₂]
    exact hsteps
  · obtain ⟨e2, q2, q3, q4, q5, q6⟩ := id hsm
    have e3 : s₂ = ({ (U.calling g mk a).setFrames s₂.frames with heap := s₂.heap, slotsUsed := s₂.slotsUsed } : State).setVm s₂.vm := by
      have : s₂ = ({ s₂ with vm := (U.calling g mk a).vm } : State).setVm s₂.vm := rfl
      rw [e2] at this
      exact this
    have hf₂ : s₂.frames = .throwing q :: .java g :: U.frames.tail := hend
    have hW' : U.WarmedH s₂.vm := hW₂
    have hs₂ : s₂ = ((({ U with heap := s₂.heap, slotsUsed := s₂.slotsUsed } : State).setVm s₂.vm).setTop g).pushFrame (.throwing q) := by
      refine e3.trans ?_
      rw [hf₂, State.calling_eq h.top, State.setFrames_setFrames, State.pushFrame, State.frames_setTop _ hr', State.setTop_of_frames _ hr', State.setFrames_setFrames, hr]
      rfl
    have hsame : U.sameButNew ({ U with heap := s₂.heap, slotsUsed := s₂.slotsUsed } : State) L mc ms := by
      refine ⟨?_, q2, q3, q4, q5, q6⟩
      obtain ⟨t, ht, -⟩ := State.frames_cons hr
      show ({ U with heap := s₂.heap, slotsUsed := s₂.slotsUsed } : State) = { U.setFrames U.frames with heap := s₂.heap, slotsUsed := s₂.slotsUsed }
      rw [State.setFrames_self ht]
    subst hg
    refine Or.inr ⟨q, ⟨(({ U with heap := s₂.heap, slotsUsed := s₂.slotsUsed } : State).setVm s₂.vm), Ls ++ L, c0 + mc, s0 + ms⟩,
      ⟨X.admits, X.cas, X.clock, X.frames, X.room, X.hears, X.method, X.code, (X.here.setHeapUsed s₂.heap s₂.slotsUsed).setVm hW'.alike, X.tail, State.WarmedH.trans X.warmed hW', X.limits, X.bytes, X.same.trans (hsame.setVm s.vm)⟩,
      ⟨g, mk, s₂, L, E, ce, rfl, rfl, hx, hce, hcv, hcl, rfl, hL, rfl, rfl⟩, ?_⟩
    show Steps p.tables e below _ (((({ U with heap := s₂.heap, slotsUsed := s₂.slotsUsed } : State).setVm s₂.vm).setTop g).pushFrame (.throwing q))
    rw [← hs₂]
    exact hsteps
end
variable {p : Program} {l : Launch} {e : Env} {R : Room} {s : State} {m : MethodId} {args : Array Value} {below : List Frame} {meth : Method} {c : Code} {T : State} {H : Heap} {locs : List Loc} {cells slots : Nat}
theorem vx_callVX (X : Stand p l e R s m args below meth c T locs cells slots) (hexec : p.tables.exec = Jvm.exec) {own C : String} {index : Nat} {y : MethodName} {bytes : ByteArray} {maxL : Nat} {ret : Option FieldType} {hh : List (Nat × Nat × Nat × Nat)}
    (hown : s.vm.findClass own = some m.cls) (hlink : (Cond.methodLink own index y).before args s = true) (hinst : (Cond.instanceMethod y).before args s = true) (hsel : (Cond.selects C y y).before args s = true)
    (hcode : (Cond.codeWith y bytes maxL ret hh).before args s = true) (hy : y.cls ≠ "java/lang/invoke/MethodHandle" ∧ y.cls ≠ "java/lang/invoke/VarHandle")
    {W9 : Nat} {Pre : Pt → Array Value → Prop} {Post : Pt → Array Value → Option Value → Pt → Prop} {PostX : Pt → Array Value → Addr → Pt → Prop} (hK : vx_Back l R p e below s args y 3 W9 Pre Post PostX)
    {b : Addr} {cellB : Cell} (hcell : T.heap[b]? = some cellB) (hobj : cellB.vm.isStatics = false) (hcls : s.vm.findClass C = some cellB.cls)
    {g : JFrame} (hg : g.method = m) (hsize : g.locals.size = c.maxLocals) {argsL rest : List Value} (hlen : ∀ sig, parseMethodDescriptor y.desc = some sig → argsL.length = sig.parameters.length)
    (hstack : g.stack = argsL.reverse ++ .ref b :: rest) (hW : 2 * g.monitorRoom + (rest.map fun v => v.category).sum ≤ W9) (hdg : decode c.code g.pc = .ok (.invokevirtual index, 3))
    (hpre : ∀ vm₁, s.WarmedH vm₁ → Pre ⟨T.setVm vm₁, locs, cells, slots⟩ (Value.ref b :: argsL).toArray) :
    (∃ (v : Option Value) (vm₁ : Vm) (B : Pt), s.WarmedH vm₁ ∧ Stand p l e R s m args below meth c B.U B.locs B.cells B.slots ∧ Post ⟨T.setVm vm₁, locs, cells, slots⟩ (Value.ref b :: argsL).toArray v B ∧
      ∀ target, Steps p.tables e below (B.U.setTop { g with pc := g.pc + 3, stack := v.toList ++ rest }) target → Steps p.tables e below (T.setTop g) target) ∨
    (∃ (q : Addr) (vm₁ : Vm) (B : Pt), s.WarmedH vm₁ ∧ Stand p l e R s m args below meth c B.U B.locs B.cells B.slots ∧ PostX ⟨T.setVm vm₁, locs, cells, slots⟩ (Value.ref b :: argsL).toArray q B ∧
      Steps p.tables e below (T.setTop g) ((B.U.setTop { g with stack := rest }).pushFrame (.throwing q))) := by
  obtain ⟨mk, methM, hnamed, hmethM, hstM, habM⟩ := Cond.instanceMethod_spec hinst
  obtain ⟨m8, methM', cM, hn8, hmethM', -, -, -, -, -, -, hsigM⟩ := Cond.codeWith_spec hcode
  cases Option.some.inj (hn8.symm.trans hnamed)
  cases hmethM.symm.trans hmethM'
  obtain ⟨c2, r2, m2, q1, q2, q3, q4, kP, hkP, hkPi⟩ := Cond.selects_spec hsel
  cases hcls.symm.trans q1
  cases (State.methodFound?_of_named hnamed hy).symm.trans q2
  cases hnamed.symm.trans q3
  have hselP : selectMethod e.platform s.vm cellB.cls mk = .method mk := by rw [Launch.admits_selectMethod X.admits]; exact q4
  obtain ⟨vm₁, X₁, hstep₁⟩ := X.invokevirtual hexec hown hlink hnamed hmethM hstM hkP hkPi hy (a := b) (cell := cellB) hcell
    (fun z h => by rw [h] at hobj; cases hobj) hselP hmethM habM hkP hkPi (g := g) hg (argsL := argsL) (rest := rest) (hlen _ hsigM) hstack hdg
  rcases hK m meth c ⟨T.setVm vm₁, locs, cells, slots⟩ { g with stack := rest } (.invokevirtual index) mk (Value.ref b :: argsL).toArray X₁ hg hsize hdg hW (X₁.named hnamed) (hpre vm₁ X₁.warmed) with ⟨v, B, X', hpost, hsteps⟩ | ⟨q, B, X', hpost, hsteps⟩
  · exact Or.inl ⟨v, vm₁, B, X₁.warmed, X', hpost, fun target h => hstep₁ _ fun acts => by rw [doInvoke_state]; exact hsteps.trans h⟩
  · exact Or.inr ⟨q, vm₁, B, X₁.warmed, X', hpost, hstep₁ _ fun acts => by rw [doInvoke_state]; exact hsteps⟩
theorem vx_callSX (X : Stand p l e R s m args below meth c T locs cells slots) (hexec : p.tables.exec = Jvm.exec) {own : String} {index : Nat} {y : MethodName} {bytes : ByteArray} {maxL : Nat} {ret : Option FieldType} {hh : List (Nat × Nat × Nat × Nat)}
    (hown : s.vm.findClass own = some m.cls) (hlink : (Cond.methodLink own index y).before args s = true) (hstat : (Cond.static y).before args s = true) (hinit : (Cond.initialized y.cls).before args s = true)
    (hcode : (Cond.codeWith y bytes maxL ret hh).before args s = true) (hy : y.cls ≠ "java/lang/invoke/MethodHandle" ∧ y.cls ≠ "java/lang/invoke/VarHandle")
    {W9 : Nat} {Pre : Pt → Array Value → Prop} {Post : Pt → Array Value → Option Value → Pt → Prop} {PostX : Pt → Array Value → Addr → Pt → Prop} (hK : vx_Back l R p e below s args y 3 W9 Pre Post PostX)
    {g : JFrame} (hg : g.method = m) (hsize : g.locals.size = c.maxLocals) {argsL rest : List Value} (hlen : ∀ sig, parseMethodDescriptor y.desc = some sig → argsL.length = sig.parameters.length)
    (hstack : g.stack = argsL.reverse ++ rest) (hW : 2 * g.monitorRoom + (rest.map fun v => v.category).sum ≤ W9) (hdg : decode c.code g.pc = .ok (.invokestatic index, 3))
    (hpre : ∀ vm₁, s.WarmedH vm₁ → Pre ⟨T.setVm vm₁, locs, cells, slots⟩ argsL.toArray) :
    (∃ (v : Option Value) (vm₁ : Vm) (B : Pt), s.WarmedH vm₁ ∧ Stand p l e R s m args below meth c B.U B.locs B.cells B.slots ∧ Post ⟨T.setVm vm₁, locs, cells, slots⟩ argsL.toArray v B ∧
      ∀ target, Steps p.tables e below (B.U.setTop { g with pc := g.pc + 3, stack := v.toList ++ rest }) target → Steps p.tables e below (T.setTop g) target) ∨
    (∃ (q : Addr) (vm₁ : Vm) (B : Pt), s.WarmedH vm₁ ∧ Stand p l e R s m args below meth c B.U B.locs B.cells B.slots ∧ PostX ⟨T.setVm vm₁, locs, cells, slots⟩ argsL.toArray q B ∧
      Steps p.tables e below (T.setTop g) ((B.U.setTop { g with stack := rest }).pushFrame (.throwing q))) := by
  obtain ⟨mk, methM, cM, hnamed, hmethM, -, -, -, -, -, -, hsigM⟩ := Cond.codeWith_spec hcode
  have hstatic : methM.isStatic = true := Cond.static_spec hnamed hmethM hstat
  obtain ⟨kP, hkP, -⟩ := className_of_methodNamed hnamed
  have hinitP : kP.init = .initialized := Cond.initialized_spec (findClass_of_methodNamed hnamed) hkP hinit
  obtain ⟨vm₁, X₁, hstep₁⟩ := X.invokestatic hexec hown hlink hnamed hmethM hstatic hkP hinitP hy (g := g) hg (argsL := argsL) (rest := rest) (hlen _ hsigM) hstack hdg
  rcases hK m meth c ⟨T.setVm vm₁, locs, cells, slots⟩ { g with stack := rest } (.invokestatic index) mk argsL.toArray X₁ hg hsize hdg hW (X₁.named hnamed) (hpre vm₁ X₁.warmed) with ⟨v, B, X', hpost, hsteps⟩ | ⟨q, B, X', hpost, hsteps⟩
  · exact Or.inl ⟨v, vm₁, B, X₁.warmed, X', hpost, fun target h => hstep₁ _ fun acts => by rw [doInvoke_state]; exact hsteps.trans h⟩
  · exact Or.inr ⟨q, vm₁, B, X₁.warmed, X', hpost, hstep₁ _ fun acts => by rw [doInvoke_state]; exact hsteps⟩
theorem vx_callVW (X : Stand p l e R s m args below meth c T locs cells slots) (hexec : p.tables.exec = Jvm.exec) {own C : String} {index : Nat} {y : MethodName} {bytes : ByteArray} {maxL : Nat} {ret : Option FieldType} {hh : List (Nat × Nat × Nat × Nat)}
    (hown : s.vm.findClass own = some m.cls) (hlink : (Cond.methodLink own index y).before args s = true) (hinst : (Cond.instanceMethod y).before args s = true) (hsel : (Cond.selects C y y).before args s = true)
    (hcode : (Cond.codeWith y bytes maxL ret hh).before args s = true) (hy : y.cls ≠ "java/lang/invoke/MethodHandle" ∧ y.cls ≠ "java/lang/invoke/VarHandle")
    {W9 : Nat} {Pre : Pt → Array Value → Prop} {Post : Pt → Array Value → Option Value → Pt → Prop} (hK : Back l R p e below s args y 3 W9 Pre Post)
    {b : Addr} {cellB : Cell} (hcell : T.heap[b]? = some cellB) (hobj : cellB.vm.isStatics = false) (hcls : s.vm.findClass C = some cellB.cls)
    {g : JFrame} (hg : g.method = m) (hsize : g.locals.size = c.maxLocals) {argsL rest : List Value} (hlen : ∀ sig, parseMethodDescriptor y.desc = some sig → argsL.length = sig.parameters.length)
    (hstack : g.stack = argsL.reverse ++ .ref b :: rest) (hW : 2 * g.monitorRoom + (rest.map fun v => v.category).sum ≤ W9) (hdg : decode c.code g.pc = .ok (.invokevirtual index, 3))
    (hpre : ∀ vm₁, s.WarmedH vm₁ → Pre ⟨T.setVm vm₁, locs, cells, slots⟩ (Value.ref b :: argsL).toArray) :
    ∃ (v : Option Value) (vm₁ : Vm) (B : Pt), s.WarmedH vm₁ ∧ Stand p l e R s m args below meth c B.U B.locs B.cells B.slots ∧ Post ⟨T.setVm vm₁, locs, cells, slots⟩ (Value.ref b :: argsL).toArray v B ∧
      ∀ target, Steps p.tables e below (B.U.setTop { g with pc := g.pc + 3, stack := v.toList ++ rest }) target → Steps p.tables e below (T.setTop g) target := by
  obtain ⟨mk, methM, hnamed, hmethM, hstM, habM⟩ := Cond.instanceMethod_spec hinst
  obtain ⟨m8, methM', cM, hn8, hmethM', -, -, -, -, -, -, hsigM⟩ := Cond.codeWith_spec hcode
  cases Option.some.inj (hn8.symm.trans hnamed)
  cases hmethM.symm.trans hmethM'
  obtain ⟨c2, r2, m2, q1, q2, q3, q4, kP, hkP, hkPi⟩ := Cond.selects_spec hsel
  cases hcls.symm.trans q1
  cases (State.methodFound?_of_named hnamed hy).symm.trans q2
  cases hnamed.symm.trans q3
  have hselP : selectMethod e.platform s.vm cellB.cls mk = .method mk := by rw [Launch.admits_selectMethod X.admits]; exact q4
  obtain ⟨vm₁, X₁, hstep₁⟩ := X.invokevirtual hexec hown hlink hnamed hmethM hstM hkP hkPi hy (a := b) (cell := cellB) hcell
    (fun z h => by rw [h] at hobj; cases hobj) hselP hmethM habM hkP hkPi (g := g) hg (argsL := argsL) (rest := rest) (hlen _ hsigM) hstack hdg
  obtain ⟨v, B, X', hpost, hsteps⟩ := hK m meth c ⟨T.setVm vm₁, locs, cells, slots⟩ { g with stack := rest } (.invokevirtual index) mk (Value.ref b :: argsL).toArray X₁ hg hsize hdg hW (X₁.named hnamed) (hpre vm₁ X₁.warmed)
  exact ⟨v, vm₁, B, X₁.warmed, X', hpost, fun target h => hstep₁ _ fun acts => by rw [doInvoke_state]; exact hsteps.trans h⟩
abbrev vx_CVW (R : Room) (s : State) (args : Array Value) (own C : String) (index : Nat) (y : MethodName) (bytes : ByteArray) (maxL : Nat) (ret : Option FieldType) (hh : List (Nat × Nat × Nat × Nat)) (ws : List Cond) (rm : Room) (mc ms n : Nat) : Prop :=
  (rm.cells = mc ∧ rm.slots = ms ∧ rm.frames + 1 ≤ R.frames ∧ 8 + (maxL + 11) + rm.locals ≤ R.locals ∧ (∀ w ∈ ws, ∀ (a' : Array Value) (U : State), s.WarmedH U.vm → w.before a' U = true) ∧ Cond.codeWith y bytes maxL ret hh ∈ ws) ∧
  (Cond.codeWith y bytes maxL ret hh).before args s = true ∧ (Cond.initialized y.cls).before args s = true ∧ (y.cls ≠ "java/lang/invoke/MethodHandle" ∧ y.cls ≠ "java/lang/invoke/VarHandle") ∧
  (∀ sig, parseMethodDescriptor y.desc = some sig → n = sig.parameters.length) ∧ (Cond.methodLink own index y).before args s = true ∧ (Cond.instanceMethod y).before args s = true ∧ (Cond.selects C y y).before args s = true
theorem vx_cwVW {own C : String} {index maxL mc ms : Nat} {y : MethodName} {bytes : ByteArray} {ret : Option FieldType} {hh : List (Nat × Nat × Nat × Nat)} {Ts ws ws' : List Cond} {rm : Room} (n : Nat) (ht : ∀ w ∈ Ts, w.before args s = true) (hT : GoodIn Ts (wsV own index C y ws)) (hw : ws = Cond.codeWith y bytes maxL ret hh :: ws') (hrc : rm.cells = mc) (hrs : rm.slots = ms)
    (hd : y.cls = C ∧ y.cls ≠ "java/lang/invoke/MethodHandle" ∧ y.cls ≠ "java/lang/invoke/VarHandle" ∧ (parseMethodDescriptor y.desc).map (fun d => d.parameters.length) = some n) (hR : rm.frames + 1 ≤ R.frames ∧ 8 + (maxL + 11) + rm.locals ≤ R.locals) :
    vx_CVW R s args own C index y bytes maxL ret hh ws rm mc ms n := by
  obtain ⟨hC, hd⟩ := hd
  subst hC
  have ok : ∀ w ∈ wsV own index y.cls y ws, w.before args s = true := fun w h => ht w (hT w h).1
  have hG : GoodIn Ts ws := fun w h => hT w (by unfold wsV; exact List.mem_append_right _ h)
  have hc : Cond.codeWith y bytes maxL ret hh ∈ ws := by rw [hw]; exact List.mem_cons_self
  refine ⟨⟨hrc, hrs, hR.1, hR.2, pay_in ht hG, hc⟩, ht _ (hG _ hc).1, ok _ (by simp [wsV]), ⟨hd.1, hd.2.1⟩, fun sig h => ?_, ok _ (by simp [wsV]), ok _ (by simp [wsV]), ok _ (by simp [wsV])⟩
  have h2 := hd.2.2
  rw [h] at h2
  exact (Option.some.inj h2).symm
theorem vx_runVW {y : MethodName} {bytes cc : ByteArray} {maxL nL mc ms n index : Nat} {ret : Option FieldType} {hh : List (Nat × Nat × Nat × Nat)} {ws : List Cond} {rm : Room} {Pc : Array Value → State → Prop} {Qc : Array Value → State → Outcome → State → Prop} {free : Addr → Prop} {Ts : List Cond} {own C : String} {b : Addr} {As rest : List Value} {g : JFrame}
    (S : CallFix p m c cc nL s args Ts own) (hM : Met l y ws rm Pc Qc mc ms free) (cw : vx_CVW R s args own C index y bytes maxL ret hh ws rm mc ms n) (hp : PreV s H C b Pc As)
    (hg : g.method = m) (hn : As.length = n) (hsize : g.locals.size = nL) (hstack : g.stack = As.reverse ++ .ref b :: rest) (hW : 2 * g.monitorRoom + (rest.map fun v => v.category).sum ≤ 8) (hdg : decode cc g.pc = .ok (.invokevirtual index, 3)) (hf : cells + mc ≤ R.cells ∧ slots + ms ≤ R.slots) :
    va_Run p l e R s m args below meth c H locs cells slots mc ms g rest (Qc (Value.ref b :: As).toArray) free := by
  obtain ⟨⟨hrc, hrs, hfr, hlo, hws, hcw⟩, hcode, hini, hy, hlen, hl, hin, hse⟩ := cw
  have hK : Back l R p e below s args y 3 8 (PreOf R mc ms Pc) (PostOf Qc mc ms free) := va_backW (hh := hh) (bytes := bytes) (maxL := maxL) (ret := ret) hM hp.1 hrc hrs hfr hlo hws hcw (fun a' U hW => word_at hW (Or.inl (by first | rfl | simp [Cond.onTables, Cond.keeps, Cond.steady])) hini)
  obtain ⟨hx, hb, hml, ho, -⟩ := S
  obtain ⟨-, ⟨cellB, hcB, hoB, hclB⟩, hPc⟩ := hp
  intro T hT X
  obtain ⟨v, vm₁, ⟨U', l2, c2, s2⟩, hW₁, X', ⟨g', mk, t, L, e1, e2, hq, h1, hL, h2, h3⟩, st⟩ := vx_callVW X hx (C := C) (hh := hh) (bytes := bytes) (maxL := maxL) (ret := ret) ho hl hin hse hcode hy hK (by rw [hT]; exact hcB) hoB hclB hg (hsize.trans hml.symm) (argsL := As) (rest := rest) (fun sig h => hn.trans (hlen sig h)) hstack hW (by rw [hb]; exact hdg)
    (fun vm₁ hW₁ => ⟨hf.1, hf.2, hPc (T.setVm vm₁) hT hW₁⟩)
  dsimp only [Pt.U, Pt.locs, Pt.cells, Pt.slots] at X' e1 e2 h1 h2 h3 st
  subst h1; subst h2; subst h3
  exact ⟨v, (T.setVm vm₁).calling g' mk (Value.ref b :: As).toArray, t, U', L, hT, X', hL, e1, e2, hq, st⟩
section
variable {y : MethodName} {bytes cc : ByteArray} {maxL nL mc ms n index : Nat} {ret : Option FieldType} {ws : List Cond} {rm : Room} {Pc : Array Value → State → Prop} {Qc : Array Value → State → Outcome → State → Prop} {XC : String → State → State → Prop} {free : Addr → Prop} {Ts : List Cond} {own C : String} {b : Addr} {As rest : List Value} {g : JFrame}
theorem vx_runVX {hh : List (Nat × Nat × Nat × Nat)} (S : CallFix p m c cc nL s args Ts own) (hM : vx_Met l y ws rm Pc Qc XC mc ms free) (cw : vx_CVW R s args own C index y bytes maxL ret hh ws rm mc ms n) (hp : PreV s H C b Pc As)
    (hg : g.method = m) (hn : As.length = n) (hsize : g.locals.size = nL) (hstack : g.stack = As.reverse ++ .ref b :: rest) (hW : 2 * g.monitorRoom + (rest.map fun v => v.category).sum ≤ 8) (hdg : decode cc g.pc = .ok (.invokevirtual index, 3)) (hf : cells + mc ≤ R.cells ∧ slots + ms ≤ R.slots) :
    vx_Run p l e R s m args below meth c H locs cells slots mc ms g rest (Qc (Value.ref b :: As).toArray) XC free := by
  obtain ⟨⟨hrc, hrs, hfr, hlo, hws, hcw⟩, hcode, hini, hy, hlen, hl, hin, hse⟩ := cw
  have hK : vx_Back l R p e below s args y 3 8 (PreOf R mc ms Pc) (PostOf Qc mc ms free) (vx_Post XC mc ms free) := vx_backW (hh := hh) (bytes := bytes) (maxL := maxL) (ret := ret) hM hp.1 hrc hrs hfr hlo hws hcw (fun a' U hW => word_at hW (Or.inl (by first | rfl | simp [Cond.onTables, Cond.keeps, Cond.steady])) hini)
  obtain ⟨hx, hb, hml, ho, -⟩ := S
  obtain ⟨-, ⟨cellB, hcB, hoB, hclB⟩, hPc⟩ := hp
  intro T hT X
  rcases vx_callVX X hx (C := C) (hh := hh) (bytes := bytes) (maxL := maxL) (ret := ret) ho hl hin hse hcode hy hK (by rw [hT]; exact hcB) hoB hclB hg (hsize.trans hml.symm) (argsL := As) (rest := rest) (fun sig h => hn.trans (hlen sig h)) hstack hW (by rw [hb]; exact hdg)
    (fun vm₁ hW₁ => ⟨hf.1, hf.2, hPc (T.setVm vm₁) hT hW₁⟩) with ⟨v, vm₁, ⟨U', l2, c2, s2⟩, hW₁, X', ⟨g', mk, t, L, e1, e2, hq, h1, hL, h2, h3⟩, st⟩ | ⟨q, vm₁, ⟨U', l2, c2, s2⟩, hW₁, X', ⟨g', mk, t, L, E, ce, e1, e2, hq, hce, hcv, hcl, h1, hL, h2, h3⟩, st⟩
  · dsimp only [Pt.U, Pt.locs, Pt.cells, Pt.slots] at X' e1 e2 h1 h2 h3 st
    subst h1; subst h2; subst h3
    exact Or.inl ⟨v, (T.setVm vm₁).calling g' mk (Value.ref b :: As).toArray, t, U', L, hT, X', hL, e1, e2, hq, st⟩
  · dsimp only [Pt.U, Pt.locs, Pt.cells, Pt.slots] at X' e1 e2 h1 h2 h3 st hcl
    subst h1; subst h2; subst h3
    exact Or.inr ⟨q, (T.setVm vm₁).calling g' mk (Value.ref b :: As).toArray, t, U', L, E, ce, hT, X', hL, e1, e2, hq, hce, hcv, vx_cls hW₁ hcl, st⟩
theorem vx_runSX {hh : List (Nat × Nat × Nat × Nat)} (S : CallFix p m c cc nL s args Ts own) (hM : vx_Met l y ws rm Pc Qc XC mc ms free) (cw : vx_CSW R s args own index y bytes maxL ret hh ws rm mc ms n) (hp : PreS s H Pc As)
    (hg : g.method = m) (hn : As.length = n) (hsize : g.locals.size = nL) (hstack : g.stack = As.reverse ++ rest) (hW : 2 * g.monitorRoom + (rest.map fun v => v.category).sum ≤ 8) (hdg : decode cc g.pc = .ok (.invokestatic index, 3)) (hf : cells + mc ≤ R.cells ∧ slots + ms ≤ R.slots) :
    vx_Run p l e R s m args below meth c H locs cells slots mc ms g rest (Qc As.toArray) XC free := by
  obtain ⟨⟨hrc, hrs, hfr, hlo, hws, hcw⟩, hcode, hini, hy, hlen, hl, hstt⟩ := cw
  have hK : vx_Back l R p e below s args y 3 8 (PreOf R mc ms Pc) (PostOf Qc mc ms free) (vx_Post XC mc ms free) := vx_backW (hh := hh) (bytes := bytes) (maxL := maxL) (ret := ret) hM hp.1 hrc hrs hfr hlo hws hcw (fun a' U hW => word_at hW (Or.inl (by first | rfl | simp [Cond.onTables, Cond.keeps, Cond.steady])) hini)
  obtain ⟨hx, hb, hml, ho, -⟩ := S
  intro T hT X
  rcases vx_callSX X hx (hh := hh) (bytes := bytes) (maxL := maxL) (ret := ret) ho hl hstt hini hcode hy hK hg (hsize.trans hml.symm) (argsL := As) (rest := rest) (fun sig h => hn.trans (hlen sig h)) hstack hW (by rw [hb]; exact hdg)
    (fun vm₁ hW₁ => ⟨hf.1, hf.2, hp.2 (T.setVm vm₁) hT hW₁⟩) with ⟨v, vm₁, ⟨U', l2, c2, s2⟩, hW₁, X', ⟨g', mk, t, L, e1, e2, hq, h1, hL, h2, h3⟩, st⟩ | ⟨q, vm₁, ⟨U', l2, c2, s2⟩, hW₁, X', ⟨g', mk, t, L, E, ce, e1, e2, hq, hce, hcv, hcl, h1, hL, h2, h3⟩, st⟩
  · dsimp only [Pt.U, Pt.locs, Pt.cells, Pt.slots] at X' e1 e2 h1 h2 h3 st
    subst h1; subst h2; subst h3
    exact Or.inl ⟨v, (T.setVm vm₁).calling g' mk As.toArray, t, U', L, hT, X', hL, e1, e2, hq, st⟩
  · dsimp only [Pt.U, Pt.locs, Pt.cells, Pt.slots] at X' e1 e2 h1 h2 h3 st hcl
    subst h1; subst h2; subst h3
    exact Or.inr ⟨q, (T.setVm vm₁).calling g' mk As.toArray, t, U', L, E, ce, hT, X', hL, e1, e2, hq, hce, hcv, vx_cls hW₁ hcl, st⟩
end
end VXH
theorem vx_ofWH {l : Launch} {y : MethodName} {ws ws' : List Cond} {rm : Room} {Pc : Array Value → State → Prop} {Qc : Array Value → State → Outcome → State → Prop} {XC : String → State → State → Prop} {mc ms : Nat} {free : Addr → Prop} {cc : ByteArray} {maxL : Nat} {ret : Option FieldType} {hh : List (Nat × Nat × Nat × Nat)}
    (hy : plainName y.cls = true) (hw : ws = Cond.codeWith y cc maxL ret hh :: ws')
    (body : ∀ p e s m args below meth c s₁, BodyLoose p l y (headSpec ws rm) cc maxL ret e s m args below meth c s₁ → c.maxLocals = maxL → Pc args s →
      W p l e (headSpec ws rm).room s m args below meth c s.heap [] 0 0 (vx_MQ below Qc XC args s mc ms free) (entryFrame m args maxL)) : vx_Met l y ws rm Pc Qc XC mc ms free := by
  refine MetFree.of_bodyS (code := cc) (maxLocals := maxL) (ret := ret) hy ?_ ?_
  · intro args s m h hn
    obtain ⟨m9, meth, c, hn9, h1, h2, h3, h4, -, h5, h6, -⟩ := Cond.codeWith_spec (atoms_spec (ws := ws) h _ (by rw [hw]; exact List.mem_cons_self))
    cases hn.symm.trans hn9
    exact ⟨meth, c, h1, h2, h3, h4, h5, h6⟩
  · intro p e s m args below meth c s₁ B hml hP _
    have hh0 : s₁.heap = s.heap := by rw [B.state]; rfl
    obtain ⟨t, a1, o, b1, b2, b3⟩ := body p e s m args below meth c s₁ B hml hP s₁ hh0 (Stand.of_body B)
    exact ⟨t, o, a1, b1, b2, b3⟩
/-! ===== END ===== -/
end
section
def RX0 : String := "TreeheadGallery$Desk"
def TX0 : u_T := fun k => match k with
  | 0 => ("TreeheadGallery$Desk", "count", "I", false)
  | 1 => ("TreeheadGallery$Desk", "sums", "[I", true)
  | _ => ("TreeheadGallery$Desk", "way", "LTreeheadGallery$Way;", true)
def tyX0 : Nat → FieldType := fun k => match k with
  | 0 => .int
  | 1 => .array .int
  | _ => .object "TreeheadGallery$Way"
abbrev wsX00 : List Cond := u_ws RX0 TX0 3
theorem nmX0 : ∀ a, a < 3 → ∀ b, b < 3 → a ≠ b → (TX0 a).2.1 ≠ (TX0 b).2.1 := by decide +kernel
theorem tyX0_ok : ∀ k, k < 3 → parseFieldDescriptor (TX0 k).2.2.1 = some (tyX0 k) := by decide +kernel
abbrev cX0_init : ByteArray := prog_2_method_1_code
def yX0_init : MethodName := ⟨RX0, "<init>", "()V"⟩
abbrev cX0_takeLeafProof : ByteArray := prog_2_method_2_code
def yX0_takeLeafProof : MethodName := ⟨RX0, "takeLeafProof", "(LTreeheadGallery$View;II)V"⟩
abbrev cX0_takeGrowthProof : ByteArray := prog_2_method_3_code
def yX0_takeGrowthProof : MethodName := ⟨RX0, "takeGrowthProof", "(LTreeheadGallery$View;II)V"⟩
abbrev cX0_takeRoots : ByteArray := prog_2_method_4_code
def yX0_takeRoots : MethodName := ⟨RX0, "takeRoots", "(LTreeheadGallery$View;)V"⟩
abbrev cX0_takeKeyProof : ByteArray := prog_2_method_5_code
def yX0_takeKeyProof : MethodName := ⟨RX0, "takeKeyProof", "(LTreeheadGallery$KeyMap;I)V"⟩
abbrev cX0_read : ByteArray := prog_2_method_6_code
def yX0_read : MethodName := ⟨RX0, "read", "(I)I"⟩
abbrev cX0_write : ByteArray := prog_2_method_7_code
def yX0_write : MethodName := ⟨RX0, "write", "(II)V"⟩
abbrev cX0_dropLast : ByteArray := prog_2_method_8_code
def yX0_dropLast : MethodName := ⟨RX0, "dropLast", "()I"⟩
abbrev cX0_provesLeaf : ByteArray := prog_2_method_9_code
def yX0_provesLeaf : MethodName := ⟨RX0, "provesLeaf", "(IIII)Z"⟩
abbrev cX0_provesGrowth : ByteArray := prog_2_method_10_code
def yX0_provesGrowth : MethodName := ⟨RX0, "provesGrowth", "(IIII)Z"⟩
abbrev cX0_provesKey : ByteArray := prog_2_method_11_code
def yX0_provesKey : MethodName := ⟨RX0, "provesKey", "(III)Z"⟩
def RX1 : String := "TreeheadGallery$KeyMap"
def TX1 : u_T := fun k => match k with
  | 0 => ("TreeheadGallery$KeyMap", "values", "[I", true)
  | _ => ("TreeheadGallery$KeyMap", "sums", "[I", true)
def tyX1 : Nat → FieldType := fun k => match k with
  | 0 => .array .int
  | _ => .array .int
abbrev wsX10 : List Cond := u_ws RX1 TX1 2
theorem nmX1 : ∀ a, a < 2 → ∀ b, b < 2 → a ≠ b → (TX1 a).2.1 ≠ (TX1 b).2.1 := by decide +kernel
theorem tyX1_ok : ∀ k, k < 2 → parseFieldDescriptor (TX1 k).2.2.1 = some (tyX1 k) := by decide +kernel
abbrev cX1_init : ByteArray := prog_3_method_1_code
def yX1_init : MethodName := ⟨RX1, "<init>", "()V"⟩
abbrev cX1_valueAt : ByteArray := prog_3_method_2_code
def yX1_valueAt : MethodName := ⟨RX1, "valueAt", "(I)I"⟩
abbrev cX1_replace : ByteArray := prog_3_method_3_code
def yX1_replace : MethodName := ⟨RX1, "replace", "(II)I"⟩
abbrev cX1_sumBeside : ByteArray := prog_3_method_4_code
def yX1_sumBeside : MethodName := ⟨RX1, "sumBeside", "(II)I"⟩
abbrev cX1_rootSum : ByteArray := prog_3_method_5_code
def yX1_rootSum : MethodName := ⟨RX1, "rootSum", "()I"⟩
def RX2 : String := "TreeheadGallery$View"
def TX2 : u_T := fun k => match k with
  | 0 => ("TreeheadGallery$View", "leaves", "I", false)
  | 1 => ("TreeheadGallery$View", "values", "[I", true)
  | _ => ("TreeheadGallery$View", "blocks", "[I", true)
def tyX2 : Nat → FieldType := fun k => match k with
  | 0 => .int
  | 1 => .array .int
  | _ => .array .int
abbrev wsX20 : List Cond := u_ws RX2 TX2 3
theorem nmX2 : ∀ a, a < 3 → ∀ b, b < 3 → a ≠ b → (TX2 a).2.1 ≠ (TX2 b).2.1 := by decide +kernel
theorem tyX2_ok : ∀ k, k < 3 → parseFieldDescriptor (TX2 k).2.2.1 = some (tyX2 k) := by decide +kernel
abbrev cX2_init : ByteArray := prog_4_method_1_code
def yX2_init : MethodName := ⟨RX2, "<init>", "()V"⟩
abbrev cX2_add : ByteArray := prog_4_method_2_code
def yX2_add : MethodName := ⟨RX2, "add", "(I)V"⟩
abbrev cX2_valueAt : ByteArray := prog_4_method_3_code
def yX2_valueAt : MethodName := ⟨RX2, "valueAt", "(I)I"⟩
abbrev cX2_rootAt : ByteArray := prog_4_method_4_code
def yX2_rootAt : MethodName := ⟨RX2, "rootAt", "(I)I"⟩
abbrev cX2_rootOfRow : ByteArray := prog_4_method_5_code
def yX2_rootOfRow : MethodName := ⟨RX2, "rootOfRow", "(II)I"⟩
abbrev cX2_blockAt : ByteArray := prog_4_method_6_code
def yX2_blockAt : MethodName := ⟨RX2, "blockAt", "(I)I"⟩
abbrev cX2_rootFromValues : ByteArray := prog_4_method_7_code
def yX2_rootFromValues : MethodName := ⟨RX2, "rootFromValues", "(I)I"⟩
abbrev cX2_rootAnewOf : ByteArray := prog_4_method_8_code
def yX2_rootAnewOf : MethodName := ⟨RX2, "rootAnewOf", "([IIII)I"⟩
abbrev cX2_greatestPowerBelow : ByteArray := prog_4_method_9_code
def yX2_greatestPowerBelow : MethodName := ⟨RX2, "greatestPowerBelow", "(I)I"⟩
def RX3 : String := "TreeheadGallery$Watcher"
def TX3 : u_T := fun k => match k with
  | 0 => ("TreeheadGallery$Watcher", "kept", "LTreeheadGallery$View;", false)
  | 1 => ("TreeheadGallery$Watcher", "size", "I", false)
  | 2 => ("TreeheadGallery$Watcher", "root", "I", false)
  | 3 => ("TreeheadGallery$Watcher", "alarmed", "Z", false)
  | 4 => ("TreeheadGallery$Watcher", "followed", "I", false)
  | _ => ("TreeheadGallery$Watcher", "found", "I", false)
def tyX3 : Nat → FieldType := fun k => match k with
  | 0 => .object "TreeheadGallery$View"
  | 1 => .int
  | 2 => .int
  | 3 => .boolean
  | 4 => .int
  | _ => .int
abbrev wsX30 : List Cond := u_ws RX3 TX3 6
theorem nmX3 : ∀ a, a < 6 → ∀ b, b < 6 → a ≠ b → (TX3 a).2.1 ≠ (TX3 b).2.1 := by decide +kernel
theorem tyX3_ok : ∀ k, k < 6 → parseFieldDescriptor (TX3 k).2.2.1 = some (tyX3 k) := by decide +kernel
abbrev cX3_init : ByteArray := prog_5_method_1_code
def yX3_init : MethodName := ⟨RX3, "<init>", "()V"⟩
abbrev cX3_look : ByteArray := prog_5_method_2_code
def yX3_look : MethodName := ⟨RX3, "look", "(LTreeheadGallery$View;)Z"⟩
abbrev cX3_countNew : ByteArray := prog_5_method_3_code
def yX3_countNew : MethodName := ⟨RX3, "countNew", "(LTreeheadGallery$View;)V"⟩
abbrev cX3_fits : ByteArray := prog_5_method_4_code
def yX3_fits : MethodName := ⟨RX3, "fits", "(LTreeheadGallery$Watcher;)Z"⟩
def RX4 : String := "TreeheadGallery$Way"
def TX4 : u_T := fun k => match k with
  | 0 => ("TreeheadGallery$Way", "rows", "I", false)
  | 1 => ("TreeheadGallery$Way", "froms", "[I", true)
  | 2 => ("TreeheadGallery$Way", "lengths", "[I", true)
  | 3 => ("TreeheadGallery$Way", "firsts", "[Z", true)
  | 4 => ("TreeheadGallery$Way", "from", "I", false)
  | 5 => ("TreeheadGallery$Way", "length", "I", false)
  | _ => ("TreeheadGallery$Way", "leaf", "I", false)
def tyX4 : Nat → FieldType := fun k => match k with
  | 0 => .int
  | 1 => .array .int
  | 2 => .array .int
  | 3 => .array .boolean
  | 4 => .int
  | 5 => .int
  | _ => .int
abbrev wsX40 : List Cond := u_ws RX4 TX4 7
theorem nmX4 : ∀ a, a < 7 → ∀ b, b < 7 → a ≠ b → (TX4 a).2.1 ≠ (TX4 b).2.1 := by decide +kernel
theorem tyX4_ok : ∀ k, k < 7 → parseFieldDescriptor (TX4 k).2.2.1 = some (tyX4 k) := by decide +kernel
abbrev cX4_init : ByteArray := prog_6_method_1_code
def yX4_init : MethodName := ⟨RX4, "<init>", "()V"⟩
abbrev cX4_leadToLeaf : ByteArray := prog_6_method_2_code
def yX4_leadToLeaf : MethodName := ⟨RX4, "leadToLeaf", "(II)V"⟩
abbrev cX4_leadToGrowth : ByteArray := prog_6_method_3_code
def yX4_leadToGrowth : MethodName := ⟨RX4, "leadToGrowth", "(II)V"⟩
abbrev cX4_endsInTrust : ByteArray := prog_6_method_4_code
def yX4_endsInTrust : MethodName := ⟨RX4, "endsInTrust", "()Z"⟩
abbrev cX4_begin : ByteArray := prog_6_method_5_code
def yX4_begin : MethodName := ⟨RX4, "begin", "(II)V"⟩
abbrev cX4_goDown : ByteArray := prog_6_method_6_code
def yX4_goDown : MethodName := ⟨RX4, "goDown", "()V"⟩
abbrev cX4_leaveBeside : ByteArray := prog_6_method_7_code
def yX4_leaveBeside : MethodName := ⟨RX4, "leaveBeside", "(IIZ)V"⟩
abbrev cX4_rootOfPlace : ByteArray := prog_6_method_8_code
def yX4_rootOfPlace : MethodName := ⟨RX4, "rootOfPlace", "(LTreeheadGallery$View;I)I"⟩
abbrev cX4_isFirstAt : ByteArray := prog_6_method_9_code
def yX4_isFirstAt : MethodName := ⟨RX4, "isFirstAt", "(I)Z"⟩
def RX5 : String := "TreeheadGallery"
def TX5 : u_T := fun k => match k with
  | 0 => ("TreeheadGallery", "views", "[LTreeheadGallery$View;", true)
  | 1 => ("TreeheadGallery", "watchers", "[LTreeheadGallery$Watcher;", true)
  | 2 => ("TreeheadGallery", "desk", "LTreeheadGallery$Desk;", true)
  | 3 => ("TreeheadGallery", "map", "LTreeheadGallery$KeyMap;", true)
  | _ => ("TreeheadGallery", "viewCount", "I", false)
def tyX5 : Nat → FieldType := fun k => match k with
  | 0 => .array (.object "TreeheadGallery$View")
  | 1 => .array (.object "TreeheadGallery$Watcher")
  | 2 => .object "TreeheadGallery$Desk"
  | 3 => .object "TreeheadGallery$KeyMap"
  | _ => .int
abbrev wsX50 : List Cond := u_ws RX5 TX5 5
theorem nmX5 : ∀ a, a < 5 → ∀ b, b < 5 → a ≠ b → (TX5 a).2.1 ≠ (TX5 b).2.1 := by decide +kernel
theorem tyX5_ok : ∀ k, k < 5 → parseFieldDescriptor (TX5 k).2.2.1 = some (tyX5 k) := by decide +kernel
abbrev cX5_init : ByteArray := prog_1_method_1_code
def yX5_init : MethodName := ⟨RX5, "<init>", "()V"⟩
abbrev cX5_append : ByteArray := prog_1_method_2_code
def yX5_append : MethodName := ⟨RX5, "append", "(II)I"⟩
abbrev cX5_appendRow : ByteArray := prog_1_method_3_code
def yX5_appendRow : MethodName := ⟨RX5, "appendRow", "(III)I"⟩
abbrev cX5_fork : ByteArray := prog_1_method_4_code
def yX5_fork : MethodName := ⟨RX5, "fork", "(II)I"⟩
abbrev cX5_views : ByteArray := prog_1_method_5_code
def yX5_views : MethodName := ⟨RX5, "views", "()I"⟩
abbrev cX5_size : ByteArray := prog_1_method_6_code
def yX5_size : MethodName := ⟨RX5, "size", "(I)I"⟩
abbrev cX5_leaf : ByteArray := prog_1_method_7_code
def yX5_leaf : MethodName := ⟨RX5, "leaf", "(II)I"⟩
abbrev cX5_root : ByteArray := prog_1_method_8_code
def yX5_root : MethodName := ⟨RX5, "root", "(II)I"⟩
abbrev cX5_rootAnew : ByteArray := prog_1_method_9_code
def yX5_rootAnew : MethodName := ⟨RX5, "rootAnew", "(II)I"⟩
abbrev cX5_loadLeaf : ByteArray := prog_1_method_10_code
def yX5_loadLeaf : MethodName := ⟨RX5, "loadLeaf", "(III)I"⟩
abbrev cX5_loadGrowth : ByteArray := prog_1_method_11_code
def yX5_loadGrowth : MethodName := ⟨RX5, "loadGrowth", "(III)I"⟩
abbrev cX5_loadKey : ByteArray := prog_1_method_12_code
def yX5_loadKey : MethodName := ⟨RX5, "loadKey", "(I)I"⟩
abbrev cX5_change : ByteArray := prog_1_method_13_code
def yX5_change : MethodName := ⟨RX5, "change", "(II)I"⟩
abbrev cX5_shorten : ByteArray := prog_1_method_14_code
def yX5_shorten : MethodName := ⟨RX5, "shorten", "()I"⟩
abbrev cX5_sums : ByteArray := prog_1_method_15_code
def yX5_sums : MethodName := ⟨RX5, "sums", "()I"⟩
abbrev cX5_sumAt : ByteArray := prog_1_method_16_code
def yX5_sumAt : MethodName := ⟨RX5, "sumAt", "(I)I"⟩
abbrev cX5_testLeaf : ByteArray := prog_1_method_17_code
def yX5_testLeaf : MethodName := ⟨RX5, "testLeaf", "(IIII)Z"⟩
abbrev cX5_testGrowth : ByteArray := prog_1_method_18_code
def yX5_testGrowth : MethodName := ⟨RX5, "testGrowth", "(IIII)Z"⟩
abbrev cX5_testKey : ByteArray := prog_1_method_19_code
def yX5_testKey : MethodName := ⟨RX5, "testKey", "(II)Z"⟩
abbrev cX5_put : ByteArray := prog_1_method_20_code
def yX5_put : MethodName := ⟨RX5, "put", "(II)I"⟩
abbrev cX5_remove : ByteArray := prog_1_method_21_code
def yX5_remove : MethodName := ⟨RX5, "remove", "(I)I"⟩
abbrev cX5_get : ByteArray := prog_1_method_22_code
def yX5_get : MethodName := ⟨RX5, "get", "(I)I"⟩
abbrev cX5_mapRoot : ByteArray := prog_1_method_23_code
def yX5_mapRoot : MethodName := ⟨RX5, "mapRoot", "()I"⟩
abbrev cX5_show : ByteArray := prog_1_method_24_code
def yX5_show : MethodName := ⟨RX5, "show", "(II)Z"⟩
abbrev cX5_gossip : ByteArray := prog_1_method_25_code
def yX5_gossip : MethodName := ⟨RX5, "gossip", "(II)Z"⟩
abbrev cX5_follow : ByteArray := prog_1_method_26_code
def yX5_follow : MethodName := ⟨RX5, "follow", "(II)V"⟩
abbrev cX5_isAlarmed : ByteArray := prog_1_method_27_code
def yX5_isAlarmed : MethodName := ⟨RX5, "isAlarmed", "(I)Z"⟩
abbrev cX5_keptSize : ByteArray := prog_1_method_28_code
def yX5_keptSize : MethodName := ⟨RX5, "keptSize", "(I)I"⟩
abbrev cX5_keptRoot : ByteArray := prog_1_method_29_code
def yX5_keptRoot : MethodName := ⟨RX5, "keptRoot", "(I)I"⟩
abbrev cX5_counted : ByteArray := prog_1_method_30_code
def yX5_counted : MethodName := ⟨RX5, "counted", "(I)I"⟩
abbrev cX5_viewNumbered : ByteArray := prog_1_method_31_code
def yX5_viewNumbered : MethodName := ⟨RX5, "viewNumbered", "(I)LTreeheadGallery$View;"⟩
abbrev cX5_watcherNumbered : ByteArray := prog_1_method_32_code
def yX5_watcherNumbered : MethodName := ⟨RX5, "watcherNumbered", "(I)LTreeheadGallery$Watcher;"⟩
abbrev cX5_requireRange : ByteArray := prog_1_method_33_code
def yX5_requireRange : MethodName := ⟨RX5, "requireRange", "(III)V"⟩
abbrev cX5_requireRoom : ByteArray := prog_1_method_34_code
def yX5_requireRoom : MethodName := ⟨RX5, "requireRoom", "(LTreeheadGallery$View;I)V"⟩
abbrev cX5_leafSum : ByteArray := prog_1_method_35_code
def yX5_leafSum : MethodName := ⟨RX5, "leafSum", "(I)I"⟩
abbrev cX5_mix : ByteArray := prog_1_method_36_code
def yX5_mix : MethodName := ⟨RX5, "mix", "(II)I"⟩
abbrev cX5_keySum : ByteArray := prog_1_method_37_code
def yX5_keySum : MethodName := ⟨RX5, "keySum", "(I)I"⟩
abbrev cX5_mapMix : ByteArray := prog_1_method_38_code
def yX5_mapMix : MethodName := ⟨RX5, "mapMix", "(II)I"⟩
def RX6 : String := "TreeheadGalleryModel"
def TX6 : u_T := fun k => match k with
  | 0 => ("TreeheadGalleryModel", "thrown", "I", false)
  | 1 => ("TreeheadGalleryModel", "values", "[I", true)
  | 2 => ("TreeheadGalleryModel", "sizes", "[I", true)
  | 3 => ("TreeheadGalleryModel", "views", "I", false)
  | 4 => ("TreeheadGalleryModel", "trees", "[I", true)
  | 5 => ("TreeheadGalleryModel", "spans", "[I", true)
  | 6 => ("TreeheadGalleryModel", "proof", "[I", true)
  | 7 => ("TreeheadGalleryModel", "sums", "I", false)
  | 8 => ("TreeheadGalleryModel", "beside", "[I", true)
  | 9 => ("TreeheadGalleryModel", "isRight", "[Z", true)
  | 10 => ("TreeheadGalleryModel", "steps", "I", false)
  | 11 => ("TreeheadGalleryModel", "endFrom", "I", false)
  | 12 => ("TreeheadGalleryModel", "endSize", "I", false)
  | 13 => ("TreeheadGalleryModel", "endTrust", "Z", false)
  | 14 => ("TreeheadGalleryModel", "keys", "[I", true)
  | 15 => ("TreeheadGalleryModel", "level", "[I", true)
  | 16 => ("TreeheadGalleryModel", "keptViews", "[I", true)
  | 17 => ("TreeheadGalleryModel", "keptSizes", "[I", true)
  | 18 => ("TreeheadGalleryModel", "keptRoots", "[I", true)
  | 19 => ("TreeheadGalleryModel", "isAlarmed", "[Z", true)
  | 20 => ("TreeheadGalleryModel", "followed", "[I", true)
  | _ => ("TreeheadGalleryModel", "counts", "[I", true)
def tyX6 : Nat → FieldType := fun k => match k with
  | 0 => .int
  | 1 => .array .int
  | 2 => .array .int
  | 3 => .int
  | 4 => .array .int
  | 5 => .array .int
  | 6 => .array .int
  | 7 => .int
  | 8 => .array .int
  | 9 => .array .boolean
  | 10 => .int
  | 11 => .int
  | 12 => .int
  | 13 => .boolean
  | 14 => .array .int
  | 15 => .array .int
  | 16 => .array .int
  | 17 => .array .int
  | 18 => .array .int
  | 19 => .array .boolean
  | 20 => .array .int
  | _ => .array .int
abbrev wsX60 : List Cond := u_ws RX6 TX6 22
theorem nmX6 : ∀ a, a < 22 → ∀ b, b < 22 → a ≠ b → (TX6 a).2.1 ≠ (TX6 b).2.1 := by decide +kernel
theorem tyX6_ok : ∀ k, k < 22 → parseFieldDescriptor (TX6 k).2.2.1 = some (tyX6 k) := by decide +kernel
abbrev cX6_init : ByteArray := prog_8_method_1_code
def yX6_init : MethodName := ⟨RX6, "<init>", "()V"⟩
abbrev cX6_thrown : ByteArray := prog_8_method_2_code
def yX6_thrown : MethodName := ⟨RX6, "thrown", "()I"⟩
abbrev cX6_goesWell : ByteArray := prog_8_method_3_code
def yX6_goesWell : MethodName := ⟨RX6, "goesWell", "(I)Z"⟩
abbrev cX6_in : ByteArray := prog_8_method_4_code
def yX6_in : MethodName := ⟨RX6, "in", "(III)Z"⟩
abbrev cX6_isValue : ByteArray := prog_8_method_5_code
def yX6_isValue : MethodName := ⟨RX6, "isValue", "(I)Z"⟩
abbrev cX6_isView : ByteArray := prog_8_method_6_code
def yX6_isView : MethodName := ⟨RX6, "isView", "(I)Z"⟩
abbrev cX6_leafSum : ByteArray := prog_8_method_7_code
def yX6_leafSum : MethodName := ⟨RX6, "leafSum", "(I)I"⟩
abbrev cX6_mix : ByteArray := prog_8_method_8_code
def yX6_mix : MethodName := ⟨RX6, "mix", "(II)I"⟩
abbrev cX6_append : ByteArray := prog_8_method_9_code
def yX6_append : MethodName := ⟨RX6, "append", "(II)I"⟩
abbrev cX6_appendRow : ByteArray := prog_8_method_10_code
def yX6_appendRow : MethodName := ⟨RX6, "appendRow", "(III)I"⟩
abbrev cX6_fork : ByteArray := prog_8_method_11_code
def yX6_fork : MethodName := ⟨RX6, "fork", "(II)I"⟩
abbrev cX6_views : ByteArray := prog_8_method_12_code
def yX6_views : MethodName := ⟨RX6, "views", "()I"⟩
abbrev cX6_size : ByteArray := prog_8_method_13_code
def yX6_size : MethodName := ⟨RX6, "size", "(I)I"⟩
abbrev cX6_leaf : ByteArray := prog_8_method_14_code
def yX6_leaf : MethodName := ⟨RX6, "leaf", "(II)I"⟩
abbrev cX6_rootOf : ByteArray := prog_8_method_15_code
def yX6_rootOf : MethodName := ⟨RX6, "rootOf", "(III)I"⟩
abbrev cX6_root : ByteArray := prog_8_method_16_code
def yX6_root : MethodName := ⟨RX6, "root", "(II)I"⟩
abbrev cX6_rootAnew : ByteArray := prog_8_method_17_code
def yX6_rootAnew : MethodName := ⟨RX6, "rootAnew", "(II)I"⟩
abbrev cX6_split : ByteArray := prog_8_method_18_code
def yX6_split : MethodName := ⟨RX6, "split", "(I)I"⟩
abbrev cX6_step : ByteArray := prog_8_method_19_code
def yX6_step : MethodName := ⟨RX6, "step", "(IIIZ)V"⟩
abbrev cX6_goToLeaf : ByteArray := prog_8_method_20_code
def yX6_goToLeaf : MethodName := ⟨RX6, "goToLeaf", "(III)V"⟩
abbrev cX6_goToPart : ByteArray := prog_8_method_21_code
def yX6_goToPart : MethodName := ⟨RX6, "goToPart", "(III)V"⟩
abbrev cX6_load : ByteArray := prog_8_method_22_code
def yX6_load : MethodName := ⟨RX6, "load", "()I"⟩
abbrev cX6_isSize : ByteArray := prog_8_method_23_code
def yX6_isSize : MethodName := ⟨RX6, "isSize", "(II)Z"⟩
abbrev cX6_loadLeaf : ByteArray := prog_8_method_24_code
def yX6_loadLeaf : MethodName := ⟨RX6, "loadLeaf", "(III)I"⟩
abbrev cX6_loadGrowth : ByteArray := prog_8_method_25_code
def yX6_loadGrowth : MethodName := ⟨RX6, "loadGrowth", "(III)I"⟩
abbrev cX6_isKey : ByteArray := prog_8_method_26_code
def yX6_isKey : MethodName := ⟨RX6, "isKey", "(I)Z"⟩
abbrev cX6_keySum : ByteArray := prog_8_method_27_code
def yX6_keySum : MethodName := ⟨RX6, "keySum", "(I)I"⟩
abbrev cX6_join : ByteArray := prog_8_method_28_code
def yX6_join : MethodName := ⟨RX6, "join", "(II)I"⟩
abbrev cX6_climb : ByteArray := prog_8_method_29_code
def yX6_climb : MethodName := ⟨RX6, "climb", "(I)I"⟩
abbrev cX6_loadKey : ByteArray := prog_8_method_30_code
def yX6_loadKey : MethodName := ⟨RX6, "loadKey", "(I)I"⟩
abbrev cX6_change : ByteArray := prog_8_method_31_code
def yX6_change : MethodName := ⟨RX6, "change", "(II)I"⟩
abbrev cX6_shorten : ByteArray := prog_8_method_32_code
def yX6_shorten : MethodName := ⟨RX6, "shorten", "()I"⟩
abbrev cX6_sums : ByteArray := prog_8_method_33_code
def yX6_sums : MethodName := ⟨RX6, "sums", "()I"⟩
abbrev cX6_sumAt : ByteArray := prog_8_method_34_code
def yX6_sumAt : MethodName := ⟨RX6, "sumAt", "(I)I"⟩
abbrev cX6_testLeaf : ByteArray := prog_8_method_35_code
def yX6_testLeaf : MethodName := ⟨RX6, "testLeaf", "(IIII)Z"⟩
abbrev cX6_testGrowth : ByteArray := prog_8_method_36_code
def yX6_testGrowth : MethodName := ⟨RX6, "testGrowth", "(IIII)Z"⟩
abbrev cX6_testKey : ByteArray := prog_8_method_37_code
def yX6_testKey : MethodName := ⟨RX6, "testKey", "(II)Z"⟩
abbrev cX6_put : ByteArray := prog_8_method_38_code
def yX6_put : MethodName := ⟨RX6, "put", "(II)I"⟩
abbrev cX6_remove : ByteArray := prog_8_method_39_code
def yX6_remove : MethodName := ⟨RX6, "remove", "(I)I"⟩
abbrev cX6_get : ByteArray := prog_8_method_40_code
def yX6_get : MethodName := ⟨RX6, "get", "(I)I"⟩
abbrev cX6_mapRoot : ByteArray := prog_8_method_41_code
def yX6_mapRoot : MethodName := ⟨RX6, "mapRoot", "()I"⟩
abbrev cX6_isWatcher : ByteArray := prog_8_method_42_code
def yX6_isWatcher : MethodName := ⟨RX6, "isWatcher", "(I)Z"⟩
abbrev cX6_show : ByteArray := prog_8_method_43_code
def yX6_show : MethodName := ⟨RX6, "show", "(II)Z"⟩
abbrev cX6_gossip : ByteArray := prog_8_method_44_code
def yX6_gossip : MethodName := ⟨RX6, "gossip", "(II)Z"⟩
abbrev cX6_follow : ByteArray := prog_8_method_45_code
def yX6_follow : MethodName := ⟨RX6, "follow", "(II)V"⟩
abbrev cX6_isAlarmed : ByteArray := prog_8_method_46_code
def yX6_isAlarmed : MethodName := ⟨RX6, "isAlarmed", "(I)Z"⟩
abbrev cX6_keptSize : ByteArray := prog_8_method_47_code
def yX6_keptSize : MethodName := ⟨RX6, "keptSize", "(I)I"⟩
abbrev cX6_keptRoot : ByteArray := prog_8_method_48_code
def yX6_keptRoot : MethodName := ⟨RX6, "keptRoot", "(I)I"⟩
abbrev cX6_counted : ByteArray := prog_8_method_49_code
def yX6_counted : MethodName := ⟨RX6, "counted", "(I)I"⟩
def RJ0 : String := "java/lang/String"
def TJ0 : u_T := fun k => match k with
  | _ => ("", "", "", false)
def tyJ0 : Nat → FieldType := fun k => match k with
  | _ => .int
abbrev wsJ00 : List Cond := u_ws RJ0 TJ0 0
theorem nmJ0 : ∀ a, a < 0 → ∀ b, b < 0 → a ≠ b → (TJ0 a).2.1 ≠ (TJ0 b).2.1 := by decide +kernel
theorem tyJ0_ok : ∀ k, k < 0 → parseFieldDescriptor (TJ0 k).2.2.1 = some (tyJ0 k) := by decide +kernel
def RL : String := "TreeheadGalleryLaw"
abbrev cL_append : ByteArray := method_3_code
def yL_append : MethodName := ⟨RL, "append", "(LTreeheadGallery;II[J)I"⟩
abbrev cL_appendRow : ByteArray := method_4_code
def yL_appendRow : MethodName := ⟨RL, "appendRow", "(LTreeheadGallery;III[J)I"⟩
abbrev cL_fork : ByteArray := method_5_code
def yL_fork : MethodName := ⟨RL, "fork", "(LTreeheadGallery;II[J)I"⟩
abbrev cL_size : ByteArray := method_6_code
def yL_size : MethodName := ⟨RL, "size", "(LTreeheadGallery;I[J)I"⟩
abbrev cL_leaf : ByteArray := method_7_code
def yL_leaf : MethodName := ⟨RL, "leaf", "(LTreeheadGallery;II[J)I"⟩
abbrev cL_root : ByteArray := method_8_code
def yL_root : MethodName := ⟨RL, "root", "(LTreeheadGallery;II[J)I"⟩
abbrev cL_rootAnew : ByteArray := method_9_code
def yL_rootAnew : MethodName := ⟨RL, "rootAnew", "(LTreeheadGallery;II[J)I"⟩
abbrev cL_loadLeaf : ByteArray := method_10_code
def yL_loadLeaf : MethodName := ⟨RL, "loadLeaf", "(LTreeheadGallery;III[J)I"⟩
abbrev cL_loadGrowth : ByteArray := method_11_code
def yL_loadGrowth : MethodName := ⟨RL, "loadGrowth", "(LTreeheadGallery;III[J)I"⟩
abbrev cL_loadKey : ByteArray := method_12_code
def yL_loadKey : MethodName := ⟨RL, "loadKey", "(LTreeheadGallery;I[J)I"⟩
abbrev cL_change : ByteArray := method_13_code
def yL_change : MethodName := ⟨RL, "change", "(LTreeheadGallery;II[J)I"⟩
abbrev cL_shorten : ByteArray := method_14_code
def yL_shorten : MethodName := ⟨RL, "shorten", "(LTreeheadGallery;[J)I"⟩
abbrev cL_sumAt : ByteArray := method_15_code
def yL_sumAt : MethodName := ⟨RL, "sumAt", "(LTreeheadGallery;I[J)I"⟩
abbrev cL_testLeaf : ByteArray := method_16_code
def yL_testLeaf : MethodName := ⟨RL, "testLeaf", "(LTreeheadGallery;IIII[J)I"⟩
abbrev cL_testGrowth : ByteArray := method_17_code
def yL_testGrowth : MethodName := ⟨RL, "testGrowth", "(LTreeheadGallery;IIII[J)I"⟩
abbrev cL_testKey : ByteArray := method_18_code
def yL_testKey : MethodName := ⟨RL, "testKey", "(LTreeheadGallery;II[J)I"⟩
abbrev cL_put : ByteArray := method_19_code
def yL_put : MethodName := ⟨RL, "put", "(LTreeheadGallery;II[J)I"⟩
abbrev cL_remove : ByteArray := method_20_code
def yL_remove : MethodName := ⟨RL, "remove", "(LTreeheadGallery;I[J)I"⟩
abbrev cL_get : ByteArray := method_21_code
def yL_get : MethodName := ⟨RL, "get", "(LTreeheadGallery;I[J)I"⟩
abbrev cL_show : ByteArray := method_22_code
def yL_show : MethodName := ⟨RL, "show", "(LTreeheadGallery;II[J)I"⟩
abbrev cL_gossip : ByteArray := method_23_code
def yL_gossip : MethodName := ⟨RL, "gossip", "(LTreeheadGallery;II[J)I"⟩
abbrev cL_follow : ByteArray := method_24_code
def yL_follow : MethodName := ⟨RL, "follow", "(LTreeheadGallery;II)I"⟩
abbrev cL_isAlarmed : ByteArray := method_25_code
def yL_isAlarmed : MethodName := ⟨RL, "isAlarmed", "(LTreeheadGallery;I[J)I"⟩
abbrev cL_keptSize : ByteArray := method_26_code
def yL_keptSize : MethodName := ⟨RL, "keptSize", "(LTreeheadGallery;I[J)I"⟩
abbrev cL_keptRoot : ByteArray := method_27_code
def yL_keptRoot : MethodName := ⟨RL, "keptRoot", "(LTreeheadGallery;I[J)I"⟩
abbrev cL_counted : ByteArray := method_28_code
def yL_counted : MethodName := ⟨RL, "counted", "(LTreeheadGallery;I[J)I"⟩
abbrev cL_law : ByteArray := code
def yL_law : MethodName := ⟨RL, "law", "([I)Z"⟩
abbrev vwCl : List vw_C := [(RX0, TX0, 3), (RX1, TX1, 2), (RX2, TX2, 3), (RX3, TX3, 6), (RX4, TX4, 7), (RX5, TX5, 5), (RX6, TX6, 22)]
end
section
/-- the good words of the tables: every method is proved over all of them -/
def th_G : List Cond := lw_tbl.filter goodWord
theorem th_good : ∀ w ∈ th_G, goodWord w = true := fun _ h => (List.mem_filter.mp h).2
theorem th_G0 {w : Cond} (h : w ∈ k2_sels lw_privs) (g : goodWord w = true) : w ∈ th_G := List.mem_filter.mpr ⟨List.mem_append_left _ h, g⟩
theorem th_G1 {w : Cond} (h : w ∈ tables_1_1) (g : goodWord w = true) : w ∈ th_G := List.mem_filter.mpr ⟨List.mem_append_right _ (List.mem_append_left _ h), g⟩
theorem th_G2 {w : Cond} (h : w ∈ tables_1_2) (g : goodWord w = true) : w ∈ th_G := List.mem_filter.mpr ⟨List.mem_append_right _ (List.mem_append_right _ (List.mem_append_left _ h)), g⟩
theorem th_G3 {w : Cond} (h : w ∈ tables_1_3) (g : goodWord w = true) : w ∈ th_G := List.mem_filter.mpr ⟨List.mem_append_right _ (List.mem_append_right _ (List.mem_append_right _ (List.mem_append_left _ h))), g⟩
theorem th_G4 {w : Cond} (h : w ∈ tables_1_4) (g : goodWord w = true) : w ∈ th_G := List.mem_filter.mpr ⟨List.mem_append_right _ (List.mem_append_right _ (List.mem_append_right _ (List.mem_append_right _ h))), g⟩
theorem tw_1_14 : Cond.classLink RL 8 RX5 ∈ th_G := th_G1 (List.mem_of_getElem? (i := 14) rfl) rfl
theorem tw_1_15 : Cond.instantiable RX5 5 ∈ th_G := th_G1 (List.mem_of_getElem? (i := 15) rfl) rfl
theorem tw_1_1 : Cond.initialized RX5 ∈ th_G := th_G1 (List.mem_of_getElem? (i := 1) rfl) rfl
theorem tw_3_149 : Cond.classLink RL 102 RX6 ∈ th_G := th_G3 (List.mem_of_getElem? (i := 149) rfl) rfl
theorem tw_3_150 : Cond.instantiable RX6 22 ∈ th_G := th_G3 (List.mem_of_getElem? (i := 150) rfl) rfl
theorem tw_1_7 : Cond.initialized RX6 ∈ th_G := th_G1 (List.mem_of_getElem? (i := 7) rfl) rfl
theorem tw_4_174 : Cond.arrayClass .long ∈ th_G := th_G4 (List.mem_of_getElem? (i := 174) rfl) rfl
theorem tw_1_16 : Cond.methodLink RL 101 yX5_init ∈ th_G := th_G1 (List.mem_of_getElem? (i := 16) rfl) rfl
theorem tw_1_17 : Cond.instanceMethod yX5_init ∈ th_G := th_G1 (List.mem_of_getElem? (i := 17) rfl) rfl
theorem tw_1_18 : Cond.code yX5_init cX5_init 2 none ∈ th_G := th_G1 (List.mem_of_getElem? (i := 18) rfl) rfl
theorem tw_1_19 : Cond.methodLink RX5 1 objectInit ∈ th_G := th_G1 (List.mem_of_getElem? (i := 19) rfl) rfl
theorem tw_1_20 : Cond.instanceMethod objectInit ∈ th_G := th_G1 (List.mem_of_getElem? (i := 20) rfl) rfl
theorem tw_1_21 : Cond.code objectInit ⟨#[0xb1]⟩ 1 none ∈ th_G := th_G1 (List.mem_of_getElem? (i := 21) rfl) rfl
theorem tw_1_22 : Cond.classLink RX5 9 RX2 ∈ th_G := th_G1 (List.mem_of_getElem? (i := 22) rfl) rfl
theorem tw_1_133 : Cond.fieldLink RX5 11 "TreeheadGallery" "views" "[LTreeheadGallery$View;" ∈ th_G := th_G1 (List.mem_of_getElem? (i := 133) rfl) rfl
theorem tw_1_24 : Cond.classLink RX5 15 RX3 ∈ th_G := th_G1 (List.mem_of_getElem? (i := 24) rfl) rfl
theorem tw_1_134 : Cond.fieldLink RX5 17 "TreeheadGallery" "watchers" "[LTreeheadGallery$Watcher;" ∈ th_G := th_G1 (List.mem_of_getElem? (i := 134) rfl) rfl
theorem tw_1_26 : Cond.classLink RX5 21 RX0 ∈ th_G := th_G1 (List.mem_of_getElem? (i := 26) rfl) rfl
theorem tw_1_27 : Cond.instantiable RX0 3 ∈ th_G := th_G1 (List.mem_of_getElem? (i := 27) rfl) rfl
theorem tw_1_2 : Cond.initialized RX0 ∈ th_G := th_G1 (List.mem_of_getElem? (i := 2) rfl) rfl
theorem tw_1_135 : Cond.fieldLink RX5 24 "TreeheadGallery" "desk" "LTreeheadGallery$Desk;" ∈ th_G := th_G1 (List.mem_of_getElem? (i := 135) rfl) rfl
theorem tw_1_74 : Cond.classLink RX5 28 RX1 ∈ th_G := th_G1 (List.mem_of_getElem? (i := 74) rfl) rfl
theorem tw_1_75 : Cond.instantiable RX1 2 ∈ th_G := th_G1 (List.mem_of_getElem? (i := 75) rfl) rfl
theorem tw_1_4 : Cond.initialized RX1 ∈ th_G := th_G1 (List.mem_of_getElem? (i := 4) rfl) rfl
theorem tw_1_136 : Cond.fieldLink RX5 31 "TreeheadGallery" "map" "LTreeheadGallery$KeyMap;" ∈ th_G := th_G1 (List.mem_of_getElem? (i := 136) rfl) rfl
theorem tw_1_137 : Cond.fieldLink RX5 35 "TreeheadGallery" "viewCount" "I" ∈ th_G := th_G1 (List.mem_of_getElem? (i := 137) rfl) rfl
theorem tw_1_87 : Cond.instantiable RX2 3 ∈ th_G := th_G1 (List.mem_of_getElem? (i := 87) rfl) rfl
theorem tw_1_5 : Cond.initialized RX2 ∈ th_G := th_G1 (List.mem_of_getElem? (i := 5) rfl) rfl
theorem tw_1_104 : Cond.instantiable RX3 6 ∈ th_G := th_G1 (List.mem_of_getElem? (i := 104) rfl) rfl
theorem tw_1_6 : Cond.initialized RX3 ∈ th_G := th_G1 (List.mem_of_getElem? (i := 6) rfl) rfl
theorem tw_1_29 : Cond.instanceMethod yX0_init ∈ th_G := th_G1 (List.mem_of_getElem? (i := 29) rfl) rfl
theorem tw_1_30 : Cond.code yX0_init cX0_init 1 none ∈ th_G := th_G1 (List.mem_of_getElem? (i := 30) rfl) rfl
theorem tw_1_31 : Cond.methodLink RX0 3 objectInit ∈ th_G := th_G1 (List.mem_of_getElem? (i := 31) rfl) rfl
theorem tw_1_61 : Cond.arrayClass .int ∈ th_G := th_G1 (List.mem_of_getElem? (i := 61) rfl) rfl
theorem tw_1_65 : Cond.fieldLink RX0 9 "TreeheadGallery$Desk" "sums" "[I" ∈ th_G := th_G1 (List.mem_of_getElem? (i := 65) rfl) rfl
theorem tw_1_32 : Cond.classLink RX0 15 RX4 ∈ th_G := th_G1 (List.mem_of_getElem? (i := 32) rfl) rfl
theorem tw_1_33 : Cond.instantiable RX4 7 ∈ th_G := th_G1 (List.mem_of_getElem? (i := 33) rfl) rfl
theorem tw_1_3 : Cond.initialized RX4 ∈ th_G := th_G1 (List.mem_of_getElem? (i := 3) rfl) rfl
theorem tw_1_66 : Cond.fieldLink RX0 18 "TreeheadGallery$Desk" "way" "LTreeheadGallery$Way;" ∈ th_G := th_G1 (List.mem_of_getElem? (i := 66) rfl) rfl
theorem tw_1_35 : Cond.instanceMethod yX4_init ∈ th_G := th_G1 (List.mem_of_getElem? (i := 35) rfl) rfl
theorem tw_1_36 : Cond.code yX4_init cX4_init 1 none ∈ th_G := th_G1 (List.mem_of_getElem? (i := 36) rfl) rfl
theorem tw_1_37 : Cond.methodLink RX4 3 objectInit ∈ th_G := th_G1 (List.mem_of_getElem? (i := 37) rfl) rfl
theorem tw_1_40 : Cond.fieldLink RX4 9 "TreeheadGallery$Way" "froms" "[I" ∈ th_G := th_G1 (List.mem_of_getElem? (i := 40) rfl) rfl
theorem tw_1_41 : Cond.fieldLink RX4 15 "TreeheadGallery$Way" "lengths" "[I" ∈ th_G := th_G1 (List.mem_of_getElem? (i := 41) rfl) rfl
theorem tw_1_62 : Cond.arrayClass .boolean ∈ th_G := th_G1 (List.mem_of_getElem? (i := 62) rfl) rfl
theorem tw_1_42 : Cond.fieldLink RX4 18 "TreeheadGallery$Way" "firsts" "[Z" ∈ th_G := th_G1 (List.mem_of_getElem? (i := 42) rfl) rfl
theorem tw_1_76 : Cond.methodLink RX5 30 yX1_init ∈ th_G := th_G1 (List.mem_of_getElem? (i := 76) rfl) rfl
theorem tw_1_77 : Cond.instanceMethod yX1_init ∈ th_G := th_G1 (List.mem_of_getElem? (i := 77) rfl) rfl
theorem tw_1_78 : Cond.code yX1_init cX1_init 2 none ∈ th_G := th_G1 (List.mem_of_getElem? (i := 78) rfl) rfl
theorem tw_1_79 : Cond.methodLink RX1 3 objectInit ∈ th_G := th_G1 (List.mem_of_getElem? (i := 79) rfl) rfl
theorem tw_1_80 : Cond.fieldLink RX1 9 "TreeheadGallery$KeyMap" "values" "[I" ∈ th_G := th_G1 (List.mem_of_getElem? (i := 80) rfl) rfl
theorem tw_1_81 : Cond.fieldLink RX1 15 "TreeheadGallery$KeyMap" "sums" "[I" ∈ th_G := th_G1 (List.mem_of_getElem? (i := 81) rfl) rfl
theorem tw_1_89 : Cond.instanceMethod yX2_init ∈ th_G := th_G1 (List.mem_of_getElem? (i := 89) rfl) rfl
theorem tw_1_90 : Cond.code yX2_init cX2_init 1 none ∈ th_G := th_G1 (List.mem_of_getElem? (i := 90) rfl) rfl
theorem tw_1_91 : Cond.methodLink RX2 3 objectInit ∈ th_G := th_G1 (List.mem_of_getElem? (i := 91) rfl) rfl
theorem tw_1_95 : Cond.fieldLink RX2 9 "TreeheadGallery$View" "values" "[I" ∈ th_G := th_G1 (List.mem_of_getElem? (i := 95) rfl) rfl
theorem tw_1_96 : Cond.fieldLink RX2 15 "TreeheadGallery$View" "blocks" "[I" ∈ th_G := th_G1 (List.mem_of_getElem? (i := 96) rfl) rfl
theorem tw_1_106 : Cond.instanceMethod yX3_init ∈ th_G := th_G1 (List.mem_of_getElem? (i := 106) rfl) rfl
theorem tw_1_107 : Cond.code yX3_init cX3_init 1 none ∈ th_G := th_G1 (List.mem_of_getElem? (i := 107) rfl) rfl
theorem tw_1_108 : Cond.methodLink RX3 3 objectInit ∈ th_G := th_G1 (List.mem_of_getElem? (i := 108) rfl) rfl
theorem tw_1_110 : Cond.fieldLink RX3 9 "TreeheadGallery$Watcher" "size" "I" ∈ th_G := th_G1 (List.mem_of_getElem? (i := 110) rfl) rfl
theorem tw_1_112 : Cond.fieldLink RX3 15 "TreeheadGallery$Watcher" "root" "I" ∈ th_G := th_G1 (List.mem_of_getElem? (i := 112) rfl) rfl
theorem tw_1_116 : Cond.fieldLink RX3 18 "TreeheadGallery$Watcher" "followed" "I" ∈ th_G := th_G1 (List.mem_of_getElem? (i := 116) rfl) rfl
theorem tw_3_151 : Cond.methodLink RL 104 yX6_init ∈ th_G := th_G3 (List.mem_of_getElem? (i := 151) rfl) rfl
theorem tw_3_152 : Cond.instanceMethod yX6_init ∈ th_G := th_G3 (List.mem_of_getElem? (i := 152) rfl) rfl
theorem tw_3_153 : Cond.code yX6_init cX6_init 2 none ∈ th_G := th_G3 (List.mem_of_getElem? (i := 153) rfl) rfl
theorem tw_3_154 : Cond.methodLink RX6 1 objectInit ∈ th_G := th_G3 (List.mem_of_getElem? (i := 154) rfl) rfl
theorem tw_3_156 : Cond.fieldLink RX6 7 "TreeheadGalleryModel" "values" "[I" ∈ th_G := th_G3 (List.mem_of_getElem? (i := 156) rfl) rfl
theorem tw_3_157 : Cond.fieldLink RX6 13 "TreeheadGalleryModel" "sizes" "[I" ∈ th_G := th_G3 (List.mem_of_getElem? (i := 157) rfl) rfl
theorem tw_3_158 : Cond.fieldLink RX6 16 "TreeheadGalleryModel" "views" "I" ∈ th_G := th_G3 (List.mem_of_getElem? (i := 158) rfl) rfl
theorem tw_3_159 : Cond.fieldLink RX6 20 "TreeheadGalleryModel" "trees" "[I" ∈ th_G := th_G3 (List.mem_of_getElem? (i := 159) rfl) rfl
theorem tw_3_160 : Cond.fieldLink RX6 23 "TreeheadGalleryModel" "spans" "[I" ∈ th_G := th_G3 (List.mem_of_getElem? (i := 160) rfl) rfl
theorem tw_3_161 : Cond.fieldLink RX6 26 "TreeheadGalleryModel" "proof" "[I" ∈ th_G := th_G3 (List.mem_of_getElem? (i := 161) rfl) rfl
theorem tw_3_163 : Cond.fieldLink RX6 29 "TreeheadGalleryModel" "beside" "[I" ∈ th_G := th_G3 (List.mem_of_getElem? (i := 163) rfl) rfl
theorem tw_3_164 : Cond.fieldLink RX6 32 "TreeheadGalleryModel" "isRight" "[Z" ∈ th_G := th_G3 (List.mem_of_getElem? (i := 164) rfl) rfl
theorem tw_3_169 : Cond.fieldLink RX6 36 "TreeheadGalleryModel" "keys" "[I" ∈ th_G := th_G3 (List.mem_of_getElem? (i := 169) rfl) rfl
theorem tw_3_170 : Cond.fieldLink RX6 39 "TreeheadGalleryModel" "level" "[I" ∈ th_G := th_G3 (List.mem_of_getElem? (i := 170) rfl) rfl
theorem tw_3_171 : Cond.fieldLink RX6 42 "TreeheadGalleryModel" "keptViews" "[I" ∈ th_G := th_G3 (List.mem_of_getElem? (i := 171) rfl) rfl
theorem tw_3_172 : Cond.fieldLink RX6 45 "TreeheadGalleryModel" "keptSizes" "[I" ∈ th_G := th_G3 (List.mem_of_getElem? (i := 172) rfl) rfl
theorem tw_3_173 : Cond.fieldLink RX6 48 "TreeheadGalleryModel" "keptRoots" "[I" ∈ th_G := th_G3 (List.mem_of_getElem? (i := 173) rfl) rfl
theorem tw_3_174 : Cond.fieldLink RX6 51 "TreeheadGalleryModel" "isAlarmed" "[Z" ∈ th_G := th_G3 (List.mem_of_getElem? (i := 174) rfl) rfl
theorem tw_3_175 : Cond.fieldLink RX6 54 "TreeheadGalleryModel" "followed" "[I" ∈ th_G := th_G3 (List.mem_of_getElem? (i := 175) rfl) rfl
theorem tw_3_176 : Cond.fieldLink RX6 57 "TreeheadGalleryModel" "counts" "[I" ∈ th_G := th_G3 (List.mem_of_getElem? (i := 176) rfl) rfl
theorem tw_1_165 : Cond.methodLink RL 105 yL_append ∈ th_G := th_G1 (List.mem_of_getElem? (i := 165) rfl) rfl
theorem tw_1_166 : Cond.static yL_append ∈ th_G := th_G1 (List.mem_of_getElem? (i := 166) rfl) rfl
theorem tw_1_0 : Cond.initialized RL ∈ th_G := th_G1 (List.mem_of_getElem? (i := 0) rfl) rfl
theorem tw_1_167 : Cond.codeWith yL_append cL_append 5 (some .int) [(0, 10, 13, 13), (0, 10, 17, 15), (0, 10, 21, 17)] ∈ th_G := th_G1 (List.mem_of_getElem? (i := 167) rfl) rfl
theorem tw_1_168 : Cond.classLink RL 13 "java/lang/IndexOutOfBoundsException" ∈ th_G := th_G1 (List.mem_of_getElem? (i := 168) rfl) rfl
theorem tw_1_169 : Cond.classLink RL 15 "java/lang/IllegalArgumentException" ∈ th_G := th_G1 (List.mem_of_getElem? (i := 169) rfl) rfl
theorem tw_1_170 : Cond.classLink RL 17 "java/lang/IllegalStateException" ∈ th_G := th_G1 (List.mem_of_getElem? (i := 170) rfl) rfl
theorem tw_1_171 : Cond.methodLink RL 7 yX5_append ∈ th_G := th_G1 (List.mem_of_getElem? (i := 171) rfl) rfl
theorem tw_1_172 : Cond.instanceMethod yX5_append ∈ th_G := th_G1 (List.mem_of_getElem? (i := 172) rfl) rfl
theorem tw_1_173 : Cond.selects RX5 yX5_append yX5_append ∈ th_G := th_G1 (List.mem_of_getElem? (i := 173) rfl) rfl
theorem tw_1_174 : Cond.code yX5_append cX5_append 4 (some .int) ∈ th_G := th_G1 (List.mem_of_getElem? (i := 174) rfl) rfl
theorem tw_2_7 : Cond.constant RX5 45 (65535) ∈ th_G := th_G2 (List.mem_of_getElem? (i := 7) rfl) rfl
theorem tw_1_175 : Cond.methodLink RX5 41 yX5_viewNumbered ∈ th_G := th_G1 (List.mem_of_getElem? (i := 175) rfl) rfl
theorem tw_1_177 : Cond.instanceMethod yX5_viewNumbered ∈ th_G := th_G1 (List.mem_of_getElem? (i := 177) rfl) rfl
theorem tw_0_0 : Cond.selects RX5 yX5_viewNumbered yX5_viewNumbered ∈ th_G := th_G0 (List.mem_of_getElem? (i := 0) rfl) rfl
theorem tw_1_178 : Cond.code yX5_viewNumbered cX5_viewNumbered 3 (some (.object "TreeheadGallery$View")) ∈ th_G := th_G1 (List.mem_of_getElem? (i := 178) rfl) rfl
theorem tw_1_179 : Cond.classLink RX5 72 "java/lang/IndexOutOfBoundsException" ∈ th_G := th_G1 (List.mem_of_getElem? (i := 179) rfl) rfl
theorem tw_1_11 : Cond.initialized "java/lang/IndexOutOfBoundsException" ∈ th_G := th_G1 (List.mem_of_getElem? (i := 11) rfl) rfl
theorem tw_2_8 : Cond.methodLink RX5 46 yX5_requireRange ∈ th_G := th_G2 (List.mem_of_getElem? (i := 8) rfl) rfl
theorem tw_2_9 : Cond.static yX5_requireRange ∈ th_G := th_G2 (List.mem_of_getElem? (i := 9) rfl) rfl
theorem tw_2_10 : Cond.code yX5_requireRange cX5_requireRange 3 none ∈ th_G := th_G2 (List.mem_of_getElem? (i := 10) rfl) rfl
theorem tw_2_11 : Cond.classLink RX5 168 "java/lang/IllegalArgumentException" ∈ th_G := th_G2 (List.mem_of_getElem? (i := 11) rfl) rfl
theorem tw_1_12 : Cond.initialized "java/lang/IllegalArgumentException" ∈ th_G := th_G1 (List.mem_of_getElem? (i := 12) rfl) rfl
theorem tw_2_27 : Cond.methodLink RX5 50 yX5_requireRoom ∈ th_G := th_G2 (List.mem_of_getElem? (i := 27) rfl) rfl
theorem tw_2_28 : Cond.static yX5_requireRoom ∈ th_G := th_G2 (List.mem_of_getElem? (i := 28) rfl) rfl
theorem tw_2_29 : Cond.code yX5_requireRoom cX5_requireRoom 2 none ∈ th_G := th_G2 (List.mem_of_getElem? (i := 29) rfl) rfl
theorem tw_2_30 : Cond.classLink RX5 61 "java/lang/IllegalStateException" ∈ th_G := th_G2 (List.mem_of_getElem? (i := 30) rfl) rfl
theorem tw_1_13 : Cond.initialized "java/lang/IllegalStateException" ∈ th_G := th_G1 (List.mem_of_getElem? (i := 13) rfl) rfl
theorem tw_2_46 : Cond.methodLink RX5 54 yX2_add ∈ th_G := th_G2 (List.mem_of_getElem? (i := 46) rfl) rfl
theorem tw_2_47 : Cond.instanceMethod yX2_add ∈ th_G := th_G2 (List.mem_of_getElem? (i := 47) rfl) rfl
theorem tw_2_48 : Cond.selects RX2 yX2_add yX2_add ∈ th_G := th_G2 (List.mem_of_getElem? (i := 48) rfl) rfl
theorem tw_2_49 : Cond.code yX2_add cX2_add 4 none ∈ th_G := th_G2 (List.mem_of_getElem? (i := 49) rfl) rfl
theorem tw_1_92 : Cond.fieldLink RX2 18 "TreeheadGallery$View" "leaves" "I" ∈ th_G := th_G1 (List.mem_of_getElem? (i := 92) rfl) rfl
theorem tw_2_51 : Cond.static yX5_leafSum ∈ th_G := th_G2 (List.mem_of_getElem? (i := 51) rfl) rfl
theorem tw_2_52 : Cond.code yX5_leafSum cX5_leafSum 1 (some .int) ∈ th_G := th_G2 (List.mem_of_getElem? (i := 52) rfl) rfl
theorem tw_2_53 : Cond.constantLong RX5 175 (40503) ∈ th_G := th_G2 (List.mem_of_getElem? (i := 53) rfl) rfl
theorem tw_2_54 : Cond.constantLong RX5 177 (12345) ∈ th_G := th_G2 (List.mem_of_getElem? (i := 54) rfl) rfl
theorem tw_2_55 : Cond.constantLong RX5 179 (1000003) ∈ th_G := th_G2 (List.mem_of_getElem? (i := 55) rfl) rfl
theorem tw_2_57 : Cond.static yX5_mix ∈ th_G := th_G2 (List.mem_of_getElem? (i := 57) rfl) rfl
theorem tw_2_58 : Cond.code yX5_mix cX5_mix 2 (some .int) ∈ th_G := th_G2 (List.mem_of_getElem? (i := 58) rfl) rfl
theorem tw_2_59 : Cond.constantLong RX5 181 (7919) ∈ th_G := th_G2 (List.mem_of_getElem? (i := 59) rfl) rfl
theorem tw_2_60 : Cond.constantLong RX5 183 (31337) ∈ th_G := th_G2 (List.mem_of_getElem? (i := 60) rfl) rfl
theorem tw_2_61 : Cond.constantLong RX5 185 (11) ∈ th_G := th_G2 (List.mem_of_getElem? (i := 61) rfl) rfl
theorem tw_3_226 : Cond.methodLink RL 110 yX6_append ∈ th_G := th_G3 (List.mem_of_getElem? (i := 226) rfl) rfl
theorem tw_3_227 : Cond.instanceMethod yX6_append ∈ th_G := th_G3 (List.mem_of_getElem? (i := 227) rfl) rfl
theorem tw_3_228 : Cond.selects RX6 yX6_append yX6_append ∈ th_G := th_G3 (List.mem_of_getElem? (i := 228) rfl) rfl
theorem tw_3_229 : Cond.code yX6_append cX6_append 3 (some .int) ∈ th_G := th_G3 (List.mem_of_getElem? (i := 229) rfl) rfl
theorem tw_3_230 : Cond.methodLink RX6 80 yX6_isView ∈ th_G := th_G3 (List.mem_of_getElem? (i := 230) rfl) rfl
theorem tw_3_232 : Cond.instanceMethod yX6_isView ∈ th_G := th_G3 (List.mem_of_getElem? (i := 232) rfl) rfl
theorem tw_0_9 : Cond.selects RX6 yX6_isView yX6_isView ∈ th_G := th_G0 (List.mem_of_getElem? (i := 9) rfl) rfl
theorem tw_3_233 : Cond.code yX6_isView cX6_isView 2 (some .boolean) ∈ th_G := th_G3 (List.mem_of_getElem? (i := 233) rfl) rfl
theorem tw_3_234 : Cond.methodLink RX6 64 yX6_in ∈ th_G := th_G3 (List.mem_of_getElem? (i := 234) rfl) rfl
theorem tw_3_235 : Cond.static yX6_in ∈ th_G := th_G3 (List.mem_of_getElem? (i := 235) rfl) rfl
theorem tw_3_236 : Cond.code yX6_in cX6_in 3 (some .boolean) ∈ th_G := th_G3 (List.mem_of_getElem? (i := 236) rfl) rfl
theorem tw_3_237 : Cond.methodLink RX6 84 yX6_isValue ∈ th_G := th_G3 (List.mem_of_getElem? (i := 237) rfl) rfl
theorem tw_3_238 : Cond.static yX6_isValue ∈ th_G := th_G3 (List.mem_of_getElem? (i := 238) rfl) rfl
theorem tw_3_239 : Cond.code yX6_isValue cX6_isValue 1 (some .boolean) ∈ th_G := th_G3 (List.mem_of_getElem? (i := 239) rfl) rfl
theorem tw_4_0 : Cond.constant RX6 63 (65535) ∈ th_G := th_G4 (List.mem_of_getElem? (i := 0) rfl) rfl
theorem tw_4_1 : Cond.methodLink RX6 87 yX6_goesWell ∈ th_G := th_G4 (List.mem_of_getElem? (i := 1) rfl) rfl
theorem tw_4_3 : Cond.instanceMethod yX6_goesWell ∈ th_G := th_G4 (List.mem_of_getElem? (i := 3) rfl) rfl
theorem tw_0_10 : Cond.selects RX6 yX6_goesWell yX6_goesWell ∈ th_G := th_G0 (List.mem_of_getElem? (i := 10) rfl) rfl
theorem tw_4_4 : Cond.code yX6_goesWell cX6_goesWell 2 (some .boolean) ∈ th_G := th_G4 (List.mem_of_getElem? (i := 4) rfl) rfl
theorem tw_3_155 : Cond.fieldLink RX6 60 "TreeheadGalleryModel" "thrown" "I" ∈ th_G := th_G3 (List.mem_of_getElem? (i := 155) rfl) rfl
theorem tw_3_222 : Cond.methodLink RL 111 yX6_thrown ∈ th_G := th_G3 (List.mem_of_getElem? (i := 222) rfl) rfl
theorem tw_3_223 : Cond.instanceMethod yX6_thrown ∈ th_G := th_G3 (List.mem_of_getElem? (i := 223) rfl) rfl
theorem tw_3_224 : Cond.selects RX6 yX6_thrown yX6_thrown ∈ th_G := th_G3 (List.mem_of_getElem? (i := 224) rfl) rfl
theorem tw_3_225 : Cond.code yX6_thrown cX6_thrown 1 (some .int) ∈ th_G := th_G3 (List.mem_of_getElem? (i := 225) rfl) rfl
theorem tw_2_62 : Cond.methodLink RL 114 yL_appendRow ∈ th_G := th_G2 (List.mem_of_getElem? (i := 62) rfl) rfl
theorem tw_2_63 : Cond.static yL_appendRow ∈ th_G := th_G2 (List.mem_of_getElem? (i := 63) rfl) rfl
theorem tw_2_64 : Cond.codeWith yL_appendRow cL_appendRow 6 (some .int) [(0, 12, 15, 13), (0, 12, 19, 15), (0, 12, 23, 17)] ∈ th_G := th_G2 (List.mem_of_getElem? (i := 64) rfl) rfl
theorem tw_2_65 : Cond.methodLink RL 19 yX5_appendRow ∈ th_G := th_G2 (List.mem_of_getElem? (i := 65) rfl) rfl
theorem tw_2_66 : Cond.instanceMethod yX5_appendRow ∈ th_G := th_G2 (List.mem_of_getElem? (i := 66) rfl) rfl
theorem tw_2_67 : Cond.selects RX5 yX5_appendRow yX5_appendRow ∈ th_G := th_G2 (List.mem_of_getElem? (i := 67) rfl) rfl
theorem tw_2_68 : Cond.code yX5_appendRow cX5_appendRow 6 (some .int) ∈ th_G := th_G2 (List.mem_of_getElem? (i := 68) rfl) rfl
theorem tw_4_5 : Cond.methodLink RL 117 yX6_appendRow ∈ th_G := th_G4 (List.mem_of_getElem? (i := 5) rfl) rfl
theorem tw_4_6 : Cond.instanceMethod yX6_appendRow ∈ th_G := th_G4 (List.mem_of_getElem? (i := 6) rfl) rfl
theorem tw_4_7 : Cond.selects RX6 yX6_appendRow yX6_appendRow ∈ th_G := th_G4 (List.mem_of_getElem? (i := 7) rfl) rfl
theorem tw_4_8 : Cond.code yX6_appendRow cX6_appendRow 6 (some .int) ∈ th_G := th_G4 (List.mem_of_getElem? (i := 8) rfl) rfl
theorem tw_2_69 : Cond.methodLink RL 118 yL_fork ∈ th_G := th_G2 (List.mem_of_getElem? (i := 69) rfl) rfl
theorem tw_2_70 : Cond.static yL_fork ∈ th_G := th_G2 (List.mem_of_getElem? (i := 70) rfl) rfl
theorem tw_2_71 : Cond.codeWith yL_fork cL_fork 5 (some .int) [(0, 10, 13, 13), (0, 10, 17, 15), (0, 10, 21, 17)] ∈ th_G := th_G2 (List.mem_of_getElem? (i := 71) rfl) rfl
theorem tw_2_72 : Cond.methodLink RL 23 yX5_fork ∈ th_G := th_G2 (List.mem_of_getElem? (i := 72) rfl) rfl
theorem tw_2_73 : Cond.instanceMethod yX5_fork ∈ th_G := th_G2 (List.mem_of_getElem? (i := 73) rfl) rfl
theorem tw_2_74 : Cond.selects RX5 yX5_fork yX5_fork ∈ th_G := th_G2 (List.mem_of_getElem? (i := 74) rfl) rfl
theorem tw_2_75 : Cond.code yX5_fork cX5_fork 6 (some .int) ∈ th_G := th_G2 (List.mem_of_getElem? (i := 75) rfl) rfl
theorem tw_2_77 : Cond.methodLink RX5 68 yX2_valueAt ∈ th_G := th_G2 (List.mem_of_getElem? (i := 77) rfl) rfl
theorem tw_2_78 : Cond.instanceMethod yX2_valueAt ∈ th_G := th_G2 (List.mem_of_getElem? (i := 78) rfl) rfl
theorem tw_2_79 : Cond.selects RX2 yX2_valueAt yX2_valueAt ∈ th_G := th_G2 (List.mem_of_getElem? (i := 79) rfl) rfl
theorem tw_2_80 : Cond.code yX2_valueAt cX2_valueAt 2 (some .int) ∈ th_G := th_G2 (List.mem_of_getElem? (i := 80) rfl) rfl
theorem tw_4_9 : Cond.methodLink RL 120 yX6_fork ∈ th_G := th_G4 (List.mem_of_getElem? (i := 9) rfl) rfl
theorem tw_4_10 : Cond.instanceMethod yX6_fork ∈ th_G := th_G4 (List.mem_of_getElem? (i := 10) rfl) rfl
theorem tw_4_11 : Cond.selects RX6 yX6_fork yX6_fork ∈ th_G := th_G4 (List.mem_of_getElem? (i := 11) rfl) rfl
theorem tw_4_12 : Cond.code yX6_fork cX6_fork 4 (some .int) ∈ th_G := th_G4 (List.mem_of_getElem? (i := 12) rfl) rfl
theorem tw_1_149 : Cond.methodLink RL 121 yX5_views ∈ th_G := th_G1 (List.mem_of_getElem? (i := 149) rfl) rfl
theorem tw_1_150 : Cond.instanceMethod yX5_views ∈ th_G := th_G1 (List.mem_of_getElem? (i := 150) rfl) rfl
theorem tw_1_151 : Cond.selects RX5 yX5_views yX5_views ∈ th_G := th_G1 (List.mem_of_getElem? (i := 151) rfl) rfl
theorem tw_1_152 : Cond.code yX5_views cX5_views 1 (some .int) ∈ th_G := th_G1 (List.mem_of_getElem? (i := 152) rfl) rfl
theorem tw_4_13 : Cond.methodLink RL 124 yX6_views ∈ th_G := th_G4 (List.mem_of_getElem? (i := 13) rfl) rfl
theorem tw_4_14 : Cond.instanceMethod yX6_views ∈ th_G := th_G4 (List.mem_of_getElem? (i := 14) rfl) rfl
theorem tw_4_15 : Cond.selects RX6 yX6_views yX6_views ∈ th_G := th_G4 (List.mem_of_getElem? (i := 15) rfl) rfl
theorem tw_4_16 : Cond.code yX6_views cX6_views 1 (some .int) ∈ th_G := th_G4 (List.mem_of_getElem? (i := 16) rfl) rfl
theorem tw_2_81 : Cond.methodLink RL 125 yL_size ∈ th_G := th_G2 (List.mem_of_getElem? (i := 81) rfl) rfl
theorem tw_2_82 : Cond.static yL_size ∈ th_G := th_G2 (List.mem_of_getElem? (i := 82) rfl) rfl
theorem tw_2_83 : Cond.codeWith yL_size cL_size 4 (some .int) [(0, 9, 12, 13)] ∈ th_G := th_G2 (List.mem_of_getElem? (i := 83) rfl) rfl
theorem tw_2_84 : Cond.methodLink RL 26 yX5_size ∈ th_G := th_G2 (List.mem_of_getElem? (i := 84) rfl) rfl
theorem tw_2_85 : Cond.instanceMethod yX5_size ∈ th_G := th_G2 (List.mem_of_getElem? (i := 85) rfl) rfl
theorem tw_2_86 : Cond.selects RX5 yX5_size yX5_size ∈ th_G := th_G2 (List.mem_of_getElem? (i := 86) rfl) rfl
theorem tw_2_87 : Cond.code yX5_size cX5_size 2 (some .int) ∈ th_G := th_G2 (List.mem_of_getElem? (i := 87) rfl) rfl
theorem tw_4_17 : Cond.methodLink RL 128 yX6_size ∈ th_G := th_G4 (List.mem_of_getElem? (i := 17) rfl) rfl
theorem tw_4_18 : Cond.instanceMethod yX6_size ∈ th_G := th_G4 (List.mem_of_getElem? (i := 18) rfl) rfl
theorem tw_4_19 : Cond.selects RX6 yX6_size yX6_size ∈ th_G := th_G4 (List.mem_of_getElem? (i := 19) rfl) rfl
theorem tw_4_20 : Cond.code yX6_size cX6_size 2 (some .int) ∈ th_G := th_G4 (List.mem_of_getElem? (i := 20) rfl) rfl
theorem tw_2_88 : Cond.methodLink RL 129 yL_leaf ∈ th_G := th_G2 (List.mem_of_getElem? (i := 88) rfl) rfl
theorem tw_2_89 : Cond.static yL_leaf ∈ th_G := th_G2 (List.mem_of_getElem? (i := 89) rfl) rfl
theorem tw_2_90 : Cond.codeWith yL_leaf cL_leaf 5 (some .int) [(0, 10, 13, 13)] ∈ th_G := th_G2 (List.mem_of_getElem? (i := 90) rfl) rfl
theorem tw_2_91 : Cond.methodLink RL 30 yX5_leaf ∈ th_G := th_G2 (List.mem_of_getElem? (i := 91) rfl) rfl
theorem tw_2_92 : Cond.instanceMethod yX5_leaf ∈ th_G := th_G2 (List.mem_of_getElem? (i := 92) rfl) rfl
theorem tw_2_93 : Cond.selects RX5 yX5_leaf yX5_leaf ∈ th_G := th_G2 (List.mem_of_getElem? (i := 93) rfl) rfl
theorem tw_2_94 : Cond.code yX5_leaf cX5_leaf 4 (some .int) ∈ th_G := th_G2 (List.mem_of_getElem? (i := 94) rfl) rfl
theorem tw_4_21 : Cond.methodLink RL 131 yX6_leaf ∈ th_G := th_G4 (List.mem_of_getElem? (i := 21) rfl) rfl
theorem tw_4_22 : Cond.instanceMethod yX6_leaf ∈ th_G := th_G4 (List.mem_of_getElem? (i := 22) rfl) rfl
theorem tw_4_23 : Cond.selects RX6 yX6_leaf yX6_leaf ∈ th_G := th_G4 (List.mem_of_getElem? (i := 23) rfl) rfl
theorem tw_4_24 : Cond.code yX6_leaf cX6_leaf 4 (some .int) ∈ th_G := th_G4 (List.mem_of_getElem? (i := 24) rfl) rfl
theorem tw_2_96 : Cond.methodLink RL 132 yL_root ∈ th_G := th_G2 (List.mem_of_getElem? (i := 96) rfl) rfl
theorem tw_2_97 : Cond.static yL_root ∈ th_G := th_G2 (List.mem_of_getElem? (i := 97) rfl) rfl
theorem tw_2_98 : Cond.codeWith yL_root cL_root 5 (some .int) [(0, 10, 13, 13), (0, 10, 17, 15)] ∈ th_G := th_G2 (List.mem_of_getElem? (i := 98) rfl) rfl
theorem tw_2_99 : Cond.methodLink RL 33 yX5_root ∈ th_G := th_G2 (List.mem_of_getElem? (i := 99) rfl) rfl
theorem tw_2_100 : Cond.instanceMethod yX5_root ∈ th_G := th_G2 (List.mem_of_getElem? (i := 100) rfl) rfl
theorem tw_2_101 : Cond.selects RX5 yX5_root yX5_root ∈ th_G := th_G2 (List.mem_of_getElem? (i := 101) rfl) rfl
theorem tw_2_102 : Cond.code yX5_root cX5_root 4 (some .int) ∈ th_G := th_G2 (List.mem_of_getElem? (i := 102) rfl) rfl
theorem tw_2_103 : Cond.methodLink RX5 77 yX2_rootAt ∈ th_G := th_G2 (List.mem_of_getElem? (i := 103) rfl) rfl
theorem tw_2_104 : Cond.instanceMethod yX2_rootAt ∈ th_G := th_G2 (List.mem_of_getElem? (i := 104) rfl) rfl
theorem tw_2_105 : Cond.selects RX2 yX2_rootAt yX2_rootAt ∈ th_G := th_G2 (List.mem_of_getElem? (i := 105) rfl) rfl
theorem tw_2_106 : Cond.code yX2_rootAt cX2_rootAt 2 (some .int) ∈ th_G := th_G2 (List.mem_of_getElem? (i := 106) rfl) rfl
theorem tw_2_107 : Cond.methodLink RX2 30 yX2_rootOfRow ∈ th_G := th_G2 (List.mem_of_getElem? (i := 107) rfl) rfl
theorem tw_2_108 : Cond.instanceMethod yX2_rootOfRow ∈ th_G := th_G2 (List.mem_of_getElem? (i := 108) rfl) rfl
theorem tw_2_109 : Cond.selects RX2 yX2_rootOfRow yX2_rootOfRow ∈ th_G := th_G2 (List.mem_of_getElem? (i := 109) rfl) rfl
theorem tw_2_110 : Cond.code yX2_rootOfRow cX2_rootOfRow 8 (some .int) ∈ th_G := th_G2 (List.mem_of_getElem? (i := 110) rfl) rfl
theorem tw_2_111 : Cond.methodLink RX2 33 yX2_blockAt ∈ th_G := th_G2 (List.mem_of_getElem? (i := 111) rfl) rfl
theorem tw_2_113 : Cond.instanceMethod yX2_blockAt ∈ th_G := th_G2 (List.mem_of_getElem? (i := 113) rfl) rfl
theorem tw_0_2 : Cond.selects RX2 yX2_blockAt yX2_blockAt ∈ th_G := th_G0 (List.mem_of_getElem? (i := 2) rfl) rfl
theorem tw_2_114 : Cond.code yX2_blockAt cX2_blockAt 2 (some .int) ∈ th_G := th_G2 (List.mem_of_getElem? (i := 114) rfl) rfl
theorem tw_4_25 : Cond.methodLink RL 134 yX6_root ∈ th_G := th_G4 (List.mem_of_getElem? (i := 25) rfl) rfl
theorem tw_4_26 : Cond.instanceMethod yX6_root ∈ th_G := th_G4 (List.mem_of_getElem? (i := 26) rfl) rfl
theorem tw_4_27 : Cond.selects RX6 yX6_root yX6_root ∈ th_G := th_G4 (List.mem_of_getElem? (i := 27) rfl) rfl
theorem tw_4_28 : Cond.code yX6_root cX6_root 3 (some .int) ∈ th_G := th_G4 (List.mem_of_getElem? (i := 28) rfl) rfl
theorem tw_4_29 : Cond.methodLink RX6 98 yX6_rootAnew ∈ th_G := th_G4 (List.mem_of_getElem? (i := 29) rfl) rfl
theorem tw_4_30 : Cond.instanceMethod yX6_rootAnew ∈ th_G := th_G4 (List.mem_of_getElem? (i := 30) rfl) rfl
theorem tw_4_31 : Cond.selects RX6 yX6_rootAnew yX6_rootAnew ∈ th_G := th_G4 (List.mem_of_getElem? (i := 31) rfl) rfl
theorem tw_4_32 : Cond.code yX6_rootAnew cX6_rootAnew 4 (some .int) ∈ th_G := th_G4 (List.mem_of_getElem? (i := 32) rfl) rfl
theorem tw_4_33 : Cond.methodLink RX6 101 yX6_rootOf ∈ th_G := th_G4 (List.mem_of_getElem? (i := 33) rfl) rfl
theorem tw_4_35 : Cond.instanceMethod yX6_rootOf ∈ th_G := th_G4 (List.mem_of_getElem? (i := 35) rfl) rfl
theorem tw_0_11 : Cond.selects RX6 yX6_rootOf yX6_rootOf ∈ th_G := th_G0 (List.mem_of_getElem? (i := 11) rfl) rfl
theorem tw_4_36 : Cond.code yX6_rootOf cX6_rootOf 7 (some .int) ∈ th_G := th_G4 (List.mem_of_getElem? (i := 36) rfl) rfl
theorem tw_4_37 : Cond.methodLink RX6 90 yX6_leafSum ∈ th_G := th_G4 (List.mem_of_getElem? (i := 37) rfl) rfl
theorem tw_4_38 : Cond.static yX6_leafSum ∈ th_G := th_G4 (List.mem_of_getElem? (i := 38) rfl) rfl
theorem tw_4_39 : Cond.code yX6_leafSum cX6_leafSum 1 (some .int) ∈ th_G := th_G4 (List.mem_of_getElem? (i := 39) rfl) rfl
theorem tw_4_40 : Cond.constantLong RX6 68 (40503) ∈ th_G := th_G4 (List.mem_of_getElem? (i := 40) rfl) rfl
theorem tw_4_41 : Cond.constantLong RX6 70 (12345) ∈ th_G := th_G4 (List.mem_of_getElem? (i := 41) rfl) rfl
theorem tw_4_42 : Cond.constantLong RX6 72 (1000003) ∈ th_G := th_G4 (List.mem_of_getElem? (i := 42) rfl) rfl
theorem tw_4_43 : Cond.methodLink RX6 94 yX6_mix ∈ th_G := th_G4 (List.mem_of_getElem? (i := 43) rfl) rfl
theorem tw_4_44 : Cond.static yX6_mix ∈ th_G := th_G4 (List.mem_of_getElem? (i := 44) rfl) rfl
theorem tw_4_45 : Cond.code yX6_mix cX6_mix 2 (some .int) ∈ th_G := th_G4 (List.mem_of_getElem? (i := 45) rfl) rfl
theorem tw_4_46 : Cond.constantLong RX6 74 (7919) ∈ th_G := th_G4 (List.mem_of_getElem? (i := 46) rfl) rfl
theorem tw_4_47 : Cond.constantLong RX6 76 (31337) ∈ th_G := th_G4 (List.mem_of_getElem? (i := 47) rfl) rfl
theorem tw_4_48 : Cond.constantLong RX6 78 (11) ∈ th_G := th_G4 (List.mem_of_getElem? (i := 48) rfl) rfl
theorem tw_2_115 : Cond.methodLink RL 135 yL_rootAnew ∈ th_G := th_G2 (List.mem_of_getElem? (i := 115) rfl) rfl
theorem tw_2_116 : Cond.static yL_rootAnew ∈ th_G := th_G2 (List.mem_of_getElem? (i := 116) rfl) rfl
theorem tw_2_117 : Cond.codeWith yL_rootAnew cL_rootAnew 5 (some .int) [(0, 10, 13, 13), (0, 10, 17, 15)] ∈ th_G := th_G2 (List.mem_of_getElem? (i := 117) rfl) rfl
theorem tw_2_118 : Cond.methodLink RL 36 yX5_rootAnew ∈ th_G := th_G2 (List.mem_of_getElem? (i := 118) rfl) rfl
theorem tw_2_119 : Cond.instanceMethod yX5_rootAnew ∈ th_G := th_G2 (List.mem_of_getElem? (i := 119) rfl) rfl
theorem tw_2_120 : Cond.selects RX5 yX5_rootAnew yX5_rootAnew ∈ th_G := th_G2 (List.mem_of_getElem? (i := 120) rfl) rfl
theorem tw_2_121 : Cond.code yX5_rootAnew cX5_rootAnew 4 (some .int) ∈ th_G := th_G2 (List.mem_of_getElem? (i := 121) rfl) rfl
theorem tw_2_122 : Cond.methodLink RX5 80 yX2_rootFromValues ∈ th_G := th_G2 (List.mem_of_getElem? (i := 122) rfl) rfl
theorem tw_2_123 : Cond.instanceMethod yX2_rootFromValues ∈ th_G := th_G2 (List.mem_of_getElem? (i := 123) rfl) rfl
theorem tw_2_124 : Cond.selects RX2 yX2_rootFromValues yX2_rootFromValues ∈ th_G := th_G2 (List.mem_of_getElem? (i := 124) rfl) rfl
theorem tw_2_125 : Cond.code yX2_rootFromValues cX2_rootFromValues 2 (some .int) ∈ th_G := th_G2 (List.mem_of_getElem? (i := 125) rfl) rfl
theorem tw_2_126 : Cond.methodLink RX2 36 yX2_rootAnewOf ∈ th_G := th_G2 (List.mem_of_getElem? (i := 126) rfl) rfl
theorem tw_2_127 : Cond.static yX2_rootAnewOf ∈ th_G := th_G2 (List.mem_of_getElem? (i := 127) rfl) rfl
theorem tw_2_128 : Cond.code yX2_rootAnewOf cX2_rootAnewOf 5 (some .int) ∈ th_G := th_G2 (List.mem_of_getElem? (i := 128) rfl) rfl
theorem tw_2_129 : Cond.methodLink RX2 40 yX2_greatestPowerBelow ∈ th_G := th_G2 (List.mem_of_getElem? (i := 129) rfl) rfl
theorem tw_2_130 : Cond.static yX2_greatestPowerBelow ∈ th_G := th_G2 (List.mem_of_getElem? (i := 130) rfl) rfl
theorem tw_2_131 : Cond.code yX2_greatestPowerBelow cX2_greatestPowerBelow 3 (some .int) ∈ th_G := th_G2 (List.mem_of_getElem? (i := 131) rfl) rfl
theorem tw_4_49 : Cond.methodLink RL 137 yX6_rootAnew ∈ th_G := th_G4 (List.mem_of_getElem? (i := 49) rfl) rfl
theorem tw_2_132 : Cond.methodLink RL 138 yL_loadLeaf ∈ th_G := th_G2 (List.mem_of_getElem? (i := 132) rfl) rfl
theorem tw_2_133 : Cond.static yL_loadLeaf ∈ th_G := th_G2 (List.mem_of_getElem? (i := 133) rfl) rfl
theorem tw_2_134 : Cond.codeWith yL_loadLeaf cL_loadLeaf 6 (some .int) [(0, 12, 15, 13), (0, 12, 19, 15)] ∈ th_G := th_G2 (List.mem_of_getElem? (i := 134) rfl) rfl
theorem tw_2_135 : Cond.methodLink RL 39 yX5_loadLeaf ∈ th_G := th_G2 (List.mem_of_getElem? (i := 135) rfl) rfl
theorem tw_2_136 : Cond.instanceMethod yX5_loadLeaf ∈ th_G := th_G2 (List.mem_of_getElem? (i := 136) rfl) rfl
theorem tw_2_137 : Cond.selects RX5 yX5_loadLeaf yX5_loadLeaf ∈ th_G := th_G2 (List.mem_of_getElem? (i := 137) rfl) rfl
theorem tw_2_138 : Cond.code yX5_loadLeaf cX5_loadLeaf 5 (some .int) ∈ th_G := th_G2 (List.mem_of_getElem? (i := 138) rfl) rfl
theorem tw_2_139 : Cond.methodLink RX5 83 yX0_takeLeafProof ∈ th_G := th_G2 (List.mem_of_getElem? (i := 139) rfl) rfl
theorem tw_2_140 : Cond.instanceMethod yX0_takeLeafProof ∈ th_G := th_G2 (List.mem_of_getElem? (i := 140) rfl) rfl
theorem tw_2_141 : Cond.selects RX0 yX0_takeLeafProof yX0_takeLeafProof ∈ th_G := th_G2 (List.mem_of_getElem? (i := 141) rfl) rfl
theorem tw_2_142 : Cond.code yX0_takeLeafProof cX0_takeLeafProof 4 none ∈ th_G := th_G2 (List.mem_of_getElem? (i := 142) rfl) rfl
theorem tw_2_143 : Cond.methodLink RX0 22 yX4_leadToLeaf ∈ th_G := th_G2 (List.mem_of_getElem? (i := 143) rfl) rfl
theorem tw_2_144 : Cond.instanceMethod yX4_leadToLeaf ∈ th_G := th_G2 (List.mem_of_getElem? (i := 144) rfl) rfl
theorem tw_2_145 : Cond.selects RX4 yX4_leadToLeaf yX4_leadToLeaf ∈ th_G := th_G2 (List.mem_of_getElem? (i := 145) rfl) rfl
theorem tw_2_146 : Cond.code yX4_leadToLeaf cX4_leadToLeaf 4 none ∈ th_G := th_G2 (List.mem_of_getElem? (i := 146) rfl) rfl
theorem tw_1_44 : Cond.fieldLink RX4 26 "TreeheadGallery$Way" "length" "I" ∈ th_G := th_G1 (List.mem_of_getElem? (i := 44) rfl) rfl
theorem tw_2_147 : Cond.methodLink RX4 22 yX4_begin ∈ th_G := th_G2 (List.mem_of_getElem? (i := 147) rfl) rfl
theorem tw_2_149 : Cond.instanceMethod yX4_begin ∈ th_G := th_G2 (List.mem_of_getElem? (i := 149) rfl) rfl
theorem tw_0_3 : Cond.selects RX4 yX4_begin yX4_begin ∈ th_G := th_G0 (List.mem_of_getElem? (i := 3) rfl) rfl
theorem tw_2_150 : Cond.code yX4_begin cX4_begin 3 none ∈ th_G := th_G2 (List.mem_of_getElem? (i := 150) rfl) rfl
theorem tw_1_39 : Cond.fieldLink RX4 47 "TreeheadGallery$Way" "rows" "I" ∈ th_G := th_G1 (List.mem_of_getElem? (i := 39) rfl) rfl
theorem tw_1_43 : Cond.fieldLink RX4 40 "TreeheadGallery$Way" "from" "I" ∈ th_G := th_G1 (List.mem_of_getElem? (i := 43) rfl) rfl
theorem tw_1_45 : Cond.fieldLink RX4 33 "TreeheadGallery$Way" "leaf" "I" ∈ th_G := th_G1 (List.mem_of_getElem? (i := 45) rfl) rfl
theorem tw_2_151 : Cond.methodLink RX4 30 yX4_goDown ∈ th_G := th_G2 (List.mem_of_getElem? (i := 151) rfl) rfl
theorem tw_2_153 : Cond.instanceMethod yX4_goDown ∈ th_G := th_G2 (List.mem_of_getElem? (i := 153) rfl) rfl
theorem tw_0_4 : Cond.selects RX4 yX4_goDown yX4_goDown ∈ th_G := th_G0 (List.mem_of_getElem? (i := 4) rfl) rfl
theorem tw_2_154 : Cond.code yX4_goDown cX4_goDown 2 none ∈ th_G := th_G2 (List.mem_of_getElem? (i := 154) rfl) rfl
theorem tw_2_155 : Cond.methodLink RX4 50 yX2_greatestPowerBelow ∈ th_G := th_G2 (List.mem_of_getElem? (i := 155) rfl) rfl
theorem tw_2_156 : Cond.methodLink RX4 43 yX4_leaveBeside ∈ th_G := th_G2 (List.mem_of_getElem? (i := 156) rfl) rfl
theorem tw_2_158 : Cond.instanceMethod yX4_leaveBeside ∈ th_G := th_G2 (List.mem_of_getElem? (i := 158) rfl) rfl
theorem tw_0_5 : Cond.selects RX4 yX4_leaveBeside yX4_leaveBeside ∈ th_G := th_G0 (List.mem_of_getElem? (i := 5) rfl) rfl
theorem tw_2_159 : Cond.code yX4_leaveBeside cX4_leaveBeside 4 none ∈ th_G := th_G2 (List.mem_of_getElem? (i := 159) rfl) rfl
theorem tw_2_160 : Cond.methodLink RX0 26 yX0_takeRoots ∈ th_G := th_G2 (List.mem_of_getElem? (i := 160) rfl) rfl
theorem tw_2_162 : Cond.instanceMethod yX0_takeRoots ∈ th_G := th_G2 (List.mem_of_getElem? (i := 162) rfl) rfl
theorem tw_0_6 : Cond.selects RX0 yX0_takeRoots yX0_takeRoots ∈ th_G := th_G0 (List.mem_of_getElem? (i := 6) rfl) rfl
theorem tw_2_163 : Cond.code yX0_takeRoots cX0_takeRoots 3 none ∈ th_G := th_G2 (List.mem_of_getElem? (i := 163) rfl) rfl
theorem tw_1_63 : Cond.fieldLink RX0 37 "TreeheadGallery$Desk" "count" "I" ∈ th_G := th_G1 (List.mem_of_getElem? (i := 63) rfl) rfl
theorem tw_2_164 : Cond.methodLink RX0 40 yX4_rootOfPlace ∈ th_G := th_G2 (List.mem_of_getElem? (i := 164) rfl) rfl
theorem tw_2_165 : Cond.instanceMethod yX4_rootOfPlace ∈ th_G := th_G2 (List.mem_of_getElem? (i := 165) rfl) rfl
theorem tw_2_166 : Cond.selects RX4 yX4_rootOfPlace yX4_rootOfPlace ∈ th_G := th_G2 (List.mem_of_getElem? (i := 166) rfl) rfl
theorem tw_2_167 : Cond.code yX4_rootOfPlace cX4_rootOfPlace 4 (some .int) ∈ th_G := th_G2 (List.mem_of_getElem? (i := 167) rfl) rfl
theorem tw_2_168 : Cond.methodLink RX4 56 yX2_rootOfRow ∈ th_G := th_G2 (List.mem_of_getElem? (i := 168) rfl) rfl
theorem tw_4_50 : Cond.methodLink RL 140 yX6_loadLeaf ∈ th_G := th_G4 (List.mem_of_getElem? (i := 50) rfl) rfl
theorem tw_4_51 : Cond.instanceMethod yX6_loadLeaf ∈ th_G := th_G4 (List.mem_of_getElem? (i := 51) rfl) rfl
theorem tw_4_52 : Cond.selects RX6 yX6_loadLeaf yX6_loadLeaf ∈ th_G := th_G4 (List.mem_of_getElem? (i := 52) rfl) rfl
theorem tw_4_53 : Cond.code yX6_loadLeaf cX6_loadLeaf 5 (some .int) ∈ th_G := th_G4 (List.mem_of_getElem? (i := 53) rfl) rfl
theorem tw_3_162 : Cond.fieldLink RX6 125 "TreeheadGalleryModel" "sums" "I" ∈ th_G := th_G3 (List.mem_of_getElem? (i := 162) rfl) rfl
theorem tw_4_54 : Cond.methodLink RX6 128 yX6_isSize ∈ th_G := th_G4 (List.mem_of_getElem? (i := 54) rfl) rfl
theorem tw_4_56 : Cond.instanceMethod yX6_isSize ∈ th_G := th_G4 (List.mem_of_getElem? (i := 56) rfl) rfl
theorem tw_0_12 : Cond.selects RX6 yX6_isSize yX6_isSize ∈ th_G := th_G0 (List.mem_of_getElem? (i := 12) rfl) rfl
theorem tw_4_57 : Cond.code yX6_isSize cX6_isSize 3 (some .boolean) ∈ th_G := th_G4 (List.mem_of_getElem? (i := 57) rfl) rfl
theorem tw_4_58 : Cond.methodLink RX6 132 yX6_goToLeaf ∈ th_G := th_G4 (List.mem_of_getElem? (i := 58) rfl) rfl
theorem tw_4_60 : Cond.instanceMethod yX6_goToLeaf ∈ th_G := th_G4 (List.mem_of_getElem? (i := 60) rfl) rfl
theorem tw_0_13 : Cond.selects RX6 yX6_goToLeaf yX6_goToLeaf ∈ th_G := th_G0 (List.mem_of_getElem? (i := 13) rfl) rfl
theorem tw_4_61 : Cond.code yX6_goToLeaf cX6_goToLeaf 8 none ∈ th_G := th_G4 (List.mem_of_getElem? (i := 61) rfl) rfl
theorem tw_3_165 : Cond.fieldLink RX6 108 "TreeheadGalleryModel" "steps" "I" ∈ th_G := th_G3 (List.mem_of_getElem? (i := 165) rfl) rfl
theorem tw_4_62 : Cond.methodLink RX6 105 yX6_split ∈ th_G := th_G4 (List.mem_of_getElem? (i := 62) rfl) rfl
theorem tw_4_63 : Cond.static yX6_split ∈ th_G := th_G4 (List.mem_of_getElem? (i := 63) rfl) rfl
theorem tw_4_64 : Cond.code yX6_split cX6_split 2 (some .int) ∈ th_G := th_G4 (List.mem_of_getElem? (i := 64) rfl) rfl
theorem tw_4_65 : Cond.methodLink RX6 111 yX6_step ∈ th_G := th_G4 (List.mem_of_getElem? (i := 65) rfl) rfl
theorem tw_4_67 : Cond.instanceMethod yX6_step ∈ th_G := th_G4 (List.mem_of_getElem? (i := 67) rfl) rfl
theorem tw_0_14 : Cond.selects RX6 yX6_step yX6_step ∈ th_G := th_G0 (List.mem_of_getElem? (i := 14) rfl) rfl
theorem tw_4_68 : Cond.code yX6_step cX6_step 6 none ∈ th_G := th_G4 (List.mem_of_getElem? (i := 68) rfl) rfl
theorem tw_4_69 : Cond.methodLink RX6 136 yX6_load ∈ th_G := th_G4 (List.mem_of_getElem? (i := 69) rfl) rfl
theorem tw_4_71 : Cond.instanceMethod yX6_load ∈ th_G := th_G4 (List.mem_of_getElem? (i := 71) rfl) rfl
theorem tw_0_15 : Cond.selects RX6 yX6_load yX6_load ∈ th_G := th_G0 (List.mem_of_getElem? (i := 15) rfl) rfl
theorem tw_4_72 : Cond.code yX6_load cX6_load 2 (some .int) ∈ th_G := th_G4 (List.mem_of_getElem? (i := 72) rfl) rfl
theorem tw_2_169 : Cond.methodLink RL 141 yL_loadGrowth ∈ th_G := th_G2 (List.mem_of_getElem? (i := 169) rfl) rfl
theorem tw_2_170 : Cond.static yL_loadGrowth ∈ th_G := th_G2 (List.mem_of_getElem? (i := 170) rfl) rfl
theorem tw_2_171 : Cond.codeWith yL_loadGrowth cL_loadGrowth 6 (some .int) [(0, 12, 15, 13), (0, 12, 19, 15)] ∈ th_G := th_G2 (List.mem_of_getElem? (i := 171) rfl) rfl
theorem tw_2_172 : Cond.methodLink RL 42 yX5_loadGrowth ∈ th_G := th_G2 (List.mem_of_getElem? (i := 172) rfl) rfl
theorem tw_2_173 : Cond.instanceMethod yX5_loadGrowth ∈ th_G := th_G2 (List.mem_of_getElem? (i := 173) rfl) rfl
theorem tw_2_174 : Cond.selects RX5 yX5_loadGrowth yX5_loadGrowth ∈ th_G := th_G2 (List.mem_of_getElem? (i := 174) rfl) rfl
theorem tw_2_175 : Cond.code yX5_loadGrowth cX5_loadGrowth 5 (some .int) ∈ th_G := th_G2 (List.mem_of_getElem? (i := 175) rfl) rfl
theorem tw_2_176 : Cond.methodLink RX5 90 yX0_takeGrowthProof ∈ th_G := th_G2 (List.mem_of_getElem? (i := 176) rfl) rfl
theorem tw_2_177 : Cond.instanceMethod yX0_takeGrowthProof ∈ th_G := th_G2 (List.mem_of_getElem? (i := 177) rfl) rfl
theorem tw_2_178 : Cond.selects RX0 yX0_takeGrowthProof yX0_takeGrowthProof ∈ th_G := th_G2 (List.mem_of_getElem? (i := 178) rfl) rfl
theorem tw_2_179 : Cond.code yX0_takeGrowthProof cX0_takeGrowthProof 4 none ∈ th_G := th_G2 (List.mem_of_getElem? (i := 179) rfl) rfl
theorem tw_2_180 : Cond.methodLink RX0 30 yX4_leadToGrowth ∈ th_G := th_G2 (List.mem_of_getElem? (i := 180) rfl) rfl
theorem tw_2_181 : Cond.instanceMethod yX4_leadToGrowth ∈ th_G := th_G2 (List.mem_of_getElem? (i := 181) rfl) rfl
theorem tw_2_182 : Cond.selects RX4 yX4_leadToGrowth yX4_leadToGrowth ∈ th_G := th_G2 (List.mem_of_getElem? (i := 182) rfl) rfl
theorem tw_2_183 : Cond.code yX4_leadToGrowth cX4_leadToGrowth 4 none ∈ th_G := th_G2 (List.mem_of_getElem? (i := 183) rfl) rfl
theorem tw_2_184 : Cond.methodLink RX4 36 yX4_endsInTrust ∈ th_G := th_G2 (List.mem_of_getElem? (i := 184) rfl) rfl
theorem tw_2_185 : Cond.instanceMethod yX4_endsInTrust ∈ th_G := th_G2 (List.mem_of_getElem? (i := 185) rfl) rfl
theorem tw_2_186 : Cond.selects RX4 yX4_endsInTrust yX4_endsInTrust ∈ th_G := th_G2 (List.mem_of_getElem? (i := 186) rfl) rfl
theorem tw_2_187 : Cond.code yX4_endsInTrust cX4_endsInTrust 1 (some .boolean) ∈ th_G := th_G2 (List.mem_of_getElem? (i := 187) rfl) rfl
theorem tw_4_73 : Cond.methodLink RL 143 yX6_loadGrowth ∈ th_G := th_G4 (List.mem_of_getElem? (i := 73) rfl) rfl
theorem tw_4_74 : Cond.instanceMethod yX6_loadGrowth ∈ th_G := th_G4 (List.mem_of_getElem? (i := 74) rfl) rfl
theorem tw_4_75 : Cond.selects RX6 yX6_loadGrowth yX6_loadGrowth ∈ th_G := th_G4 (List.mem_of_getElem? (i := 75) rfl) rfl
theorem tw_4_76 : Cond.code yX6_loadGrowth cX6_loadGrowth 5 (some .int) ∈ th_G := th_G4 (List.mem_of_getElem? (i := 76) rfl) rfl
theorem tw_3_168 : Cond.fieldLink RX6 121 "TreeheadGalleryModel" "endTrust" "Z" ∈ th_G := th_G3 (List.mem_of_getElem? (i := 168) rfl) rfl
theorem tw_3_166 : Cond.fieldLink RX6 115 "TreeheadGalleryModel" "endFrom" "I" ∈ th_G := th_G3 (List.mem_of_getElem? (i := 166) rfl) rfl
theorem tw_3_167 : Cond.fieldLink RX6 118 "TreeheadGalleryModel" "endSize" "I" ∈ th_G := th_G3 (List.mem_of_getElem? (i := 167) rfl) rfl
theorem tw_4_77 : Cond.methodLink RX6 140 yX6_goToPart ∈ th_G := th_G4 (List.mem_of_getElem? (i := 77) rfl) rfl
theorem tw_4_79 : Cond.instanceMethod yX6_goToPart ∈ th_G := th_G4 (List.mem_of_getElem? (i := 79) rfl) rfl
theorem tw_0_16 : Cond.selects RX6 yX6_goToPart yX6_goToPart ∈ th_G := th_G0 (List.mem_of_getElem? (i := 16) rfl) rfl
theorem tw_4_80 : Cond.code yX6_goToPart cX6_goToPart 6 none ∈ th_G := th_G4 (List.mem_of_getElem? (i := 80) rfl) rfl
theorem tw_2_188 : Cond.methodLink RL 144 yL_loadKey ∈ th_G := th_G2 (List.mem_of_getElem? (i := 188) rfl) rfl
theorem tw_2_189 : Cond.static yL_loadKey ∈ th_G := th_G2 (List.mem_of_getElem? (i := 189) rfl) rfl
theorem tw_2_190 : Cond.codeWith yL_loadKey cL_loadKey 4 (some .int) [(0, 9, 12, 15)] ∈ th_G := th_G2 (List.mem_of_getElem? (i := 190) rfl) rfl
theorem tw_2_191 : Cond.methodLink RL 45 yX5_loadKey ∈ th_G := th_G2 (List.mem_of_getElem? (i := 191) rfl) rfl
theorem tw_2_192 : Cond.instanceMethod yX5_loadKey ∈ th_G := th_G2 (List.mem_of_getElem? (i := 192) rfl) rfl
theorem tw_2_193 : Cond.selects RX5 yX5_loadKey yX5_loadKey ∈ th_G := th_G2 (List.mem_of_getElem? (i := 193) rfl) rfl
theorem tw_2_194 : Cond.code yX5_loadKey cX5_loadKey 2 (some .int) ∈ th_G := th_G2 (List.mem_of_getElem? (i := 194) rfl) rfl
theorem tw_2_195 : Cond.methodLink RX5 93 yX0_takeKeyProof ∈ th_G := th_G2 (List.mem_of_getElem? (i := 195) rfl) rfl
theorem tw_2_196 : Cond.instanceMethod yX0_takeKeyProof ∈ th_G := th_G2 (List.mem_of_getElem? (i := 196) rfl) rfl
theorem tw_2_197 : Cond.selects RX0 yX0_takeKeyProof yX0_takeKeyProof ∈ th_G := th_G2 (List.mem_of_getElem? (i := 197) rfl) rfl
theorem tw_2_198 : Cond.code yX0_takeKeyProof cX0_takeKeyProof 4 none ∈ th_G := th_G2 (List.mem_of_getElem? (i := 198) rfl) rfl
theorem tw_2_199 : Cond.methodLink RX0 44 yX1_sumBeside ∈ th_G := th_G2 (List.mem_of_getElem? (i := 199) rfl) rfl
theorem tw_2_200 : Cond.instanceMethod yX1_sumBeside ∈ th_G := th_G2 (List.mem_of_getElem? (i := 200) rfl) rfl
theorem tw_2_201 : Cond.selects RX1 yX1_sumBeside yX1_sumBeside ∈ th_G := th_G2 (List.mem_of_getElem? (i := 201) rfl) rfl
theorem tw_2_202 : Cond.code yX1_sumBeside cX1_sumBeside 3 (some .int) ∈ th_G := th_G2 (List.mem_of_getElem? (i := 202) rfl) rfl
theorem tw_4_81 : Cond.methodLink RL 146 yX6_loadKey ∈ th_G := th_G4 (List.mem_of_getElem? (i := 81) rfl) rfl
theorem tw_4_82 : Cond.instanceMethod yX6_loadKey ∈ th_G := th_G4 (List.mem_of_getElem? (i := 82) rfl) rfl
theorem tw_4_83 : Cond.selects RX6 yX6_loadKey yX6_loadKey ∈ th_G := th_G4 (List.mem_of_getElem? (i := 83) rfl) rfl
theorem tw_4_84 : Cond.code yX6_loadKey cX6_loadKey 3 (some .int) ∈ th_G := th_G4 (List.mem_of_getElem? (i := 84) rfl) rfl
theorem tw_4_85 : Cond.methodLink RX6 149 yX6_isKey ∈ th_G := th_G4 (List.mem_of_getElem? (i := 85) rfl) rfl
theorem tw_4_86 : Cond.static yX6_isKey ∈ th_G := th_G4 (List.mem_of_getElem? (i := 86) rfl) rfl
theorem tw_4_87 : Cond.code yX6_isKey cX6_isKey 1 (some .boolean) ∈ th_G := th_G4 (List.mem_of_getElem? (i := 87) rfl) rfl
theorem tw_4_88 : Cond.methodLink RX6 152 yX6_climb ∈ th_G := th_G4 (List.mem_of_getElem? (i := 88) rfl) rfl
theorem tw_4_90 : Cond.instanceMethod yX6_climb ∈ th_G := th_G4 (List.mem_of_getElem? (i := 90) rfl) rfl
theorem tw_0_17 : Cond.selects RX6 yX6_climb yX6_climb ∈ th_G := th_G0 (List.mem_of_getElem? (i := 17) rfl) rfl
theorem tw_4_91 : Cond.code yX6_climb cX6_climb 5 (some .int) ∈ th_G := th_G4 (List.mem_of_getElem? (i := 91) rfl) rfl
theorem tw_4_92 : Cond.methodLink RX6 143 yX6_keySum ∈ th_G := th_G4 (List.mem_of_getElem? (i := 92) rfl) rfl
theorem tw_4_93 : Cond.static yX6_keySum ∈ th_G := th_G4 (List.mem_of_getElem? (i := 93) rfl) rfl
theorem tw_4_94 : Cond.code yX6_keySum cX6_keySum 1 (some .int) ∈ th_G := th_G4 (List.mem_of_getElem? (i := 94) rfl) rfl
theorem tw_4_95 : Cond.methodLink RX6 146 yX6_join ∈ th_G := th_G4 (List.mem_of_getElem? (i := 95) rfl) rfl
theorem tw_4_96 : Cond.static yX6_join ∈ th_G := th_G4 (List.mem_of_getElem? (i := 96) rfl) rfl
theorem tw_4_97 : Cond.code yX6_join cX6_join 2 (some .int) ∈ th_G := th_G4 (List.mem_of_getElem? (i := 97) rfl) rfl
theorem tw_2_203 : Cond.methodLink RL 147 yL_change ∈ th_G := th_G2 (List.mem_of_getElem? (i := 203) rfl) rfl
theorem tw_2_204 : Cond.static yL_change ∈ th_G := th_G2 (List.mem_of_getElem? (i := 204) rfl) rfl
theorem tw_2_205 : Cond.codeWith yL_change cL_change 5 (some .int) [(0, 10, 13, 13), (0, 10, 17, 15), (0, 10, 21, 17)] ∈ th_G := th_G2 (List.mem_of_getElem? (i := 205) rfl) rfl
theorem tw_2_206 : Cond.methodLink RL 48 yX5_change ∈ th_G := th_G2 (List.mem_of_getElem? (i := 206) rfl) rfl
theorem tw_2_207 : Cond.instanceMethod yX5_change ∈ th_G := th_G2 (List.mem_of_getElem? (i := 207) rfl) rfl
theorem tw_2_208 : Cond.selects RX5 yX5_change yX5_change ∈ th_G := th_G2 (List.mem_of_getElem? (i := 208) rfl) rfl
theorem tw_2_209 : Cond.code yX5_change cX5_change 3 (some .int) ∈ th_G := th_G2 (List.mem_of_getElem? (i := 209) rfl) rfl
theorem tw_2_211 : Cond.constant RX5 99 (1000002) ∈ th_G := th_G2 (List.mem_of_getElem? (i := 211) rfl) rfl
theorem tw_2_213 : Cond.methodLink RX5 102 yX0_write ∈ th_G := th_G2 (List.mem_of_getElem? (i := 213) rfl) rfl
theorem tw_2_214 : Cond.instanceMethod yX0_write ∈ th_G := th_G2 (List.mem_of_getElem? (i := 214) rfl) rfl
theorem tw_2_215 : Cond.selects RX0 yX0_write yX0_write ∈ th_G := th_G2 (List.mem_of_getElem? (i := 215) rfl) rfl
theorem tw_2_216 : Cond.code yX0_write cX0_write 3 none ∈ th_G := th_G2 (List.mem_of_getElem? (i := 216) rfl) rfl
theorem tw_4_98 : Cond.methodLink RL 149 yX6_change ∈ th_G := th_G4 (List.mem_of_getElem? (i := 98) rfl) rfl
theorem tw_4_99 : Cond.instanceMethod yX6_change ∈ th_G := th_G4 (List.mem_of_getElem? (i := 99) rfl) rfl
theorem tw_4_100 : Cond.selects RX6 yX6_change yX6_change ∈ th_G := th_G4 (List.mem_of_getElem? (i := 100) rfl) rfl
theorem tw_4_101 : Cond.code yX6_change cX6_change 3 (some .int) ∈ th_G := th_G4 (List.mem_of_getElem? (i := 101) rfl) rfl
theorem tw_4_102 : Cond.constant RX6 155 (1000002) ∈ th_G := th_G4 (List.mem_of_getElem? (i := 102) rfl) rfl
theorem tw_2_217 : Cond.methodLink RL 150 yL_shorten ∈ th_G := th_G2 (List.mem_of_getElem? (i := 217) rfl) rfl
theorem tw_2_218 : Cond.static yL_shorten ∈ th_G := th_G2 (List.mem_of_getElem? (i := 218) rfl) rfl
theorem tw_2_219 : Cond.codeWith yL_shorten cL_shorten 3 (some .int) [(0, 8, 11, 17)] ∈ th_G := th_G2 (List.mem_of_getElem? (i := 219) rfl) rfl
theorem tw_2_220 : Cond.methodLink RL 51 yX5_shorten ∈ th_G := th_G2 (List.mem_of_getElem? (i := 220) rfl) rfl
theorem tw_2_221 : Cond.instanceMethod yX5_shorten ∈ th_G := th_G2 (List.mem_of_getElem? (i := 221) rfl) rfl
theorem tw_2_222 : Cond.selects RX5 yX5_shorten yX5_shorten ∈ th_G := th_G2 (List.mem_of_getElem? (i := 222) rfl) rfl
theorem tw_2_223 : Cond.code yX5_shorten cX5_shorten 1 (some .int) ∈ th_G := th_G2 (List.mem_of_getElem? (i := 223) rfl) rfl
theorem tw_2_225 : Cond.methodLink RX5 108 yX0_dropLast ∈ th_G := th_G2 (List.mem_of_getElem? (i := 225) rfl) rfl
theorem tw_2_226 : Cond.instanceMethod yX0_dropLast ∈ th_G := th_G2 (List.mem_of_getElem? (i := 226) rfl) rfl
theorem tw_2_227 : Cond.selects RX0 yX0_dropLast yX0_dropLast ∈ th_G := th_G2 (List.mem_of_getElem? (i := 227) rfl) rfl
theorem tw_2_228 : Cond.code yX0_dropLast cX0_dropLast 2 (some .int) ∈ th_G := th_G2 (List.mem_of_getElem? (i := 228) rfl) rfl
theorem tw_2_229 : Cond.methodLink RX0 50 yX0_read ∈ th_G := th_G2 (List.mem_of_getElem? (i := 229) rfl) rfl
theorem tw_2_230 : Cond.instanceMethod yX0_read ∈ th_G := th_G2 (List.mem_of_getElem? (i := 230) rfl) rfl
theorem tw_2_231 : Cond.selects RX0 yX0_read yX0_read ∈ th_G := th_G2 (List.mem_of_getElem? (i := 231) rfl) rfl
theorem tw_2_232 : Cond.code yX0_read cX0_read 2 (some .int) ∈ th_G := th_G2 (List.mem_of_getElem? (i := 232) rfl) rfl
theorem tw_4_103 : Cond.methodLink RL 153 yX6_shorten ∈ th_G := th_G4 (List.mem_of_getElem? (i := 103) rfl) rfl
theorem tw_4_104 : Cond.instanceMethod yX6_shorten ∈ th_G := th_G4 (List.mem_of_getElem? (i := 104) rfl) rfl
theorem tw_4_105 : Cond.selects RX6 yX6_shorten yX6_shorten ∈ th_G := th_G4 (List.mem_of_getElem? (i := 105) rfl) rfl
theorem tw_4_106 : Cond.code yX6_shorten cX6_shorten 1 (some .int) ∈ th_G := th_G4 (List.mem_of_getElem? (i := 106) rfl) rfl
theorem tw_1_153 : Cond.methodLink RL 154 yX5_sums ∈ th_G := th_G1 (List.mem_of_getElem? (i := 153) rfl) rfl
theorem tw_1_154 : Cond.instanceMethod yX5_sums ∈ th_G := th_G1 (List.mem_of_getElem? (i := 154) rfl) rfl
theorem tw_1_155 : Cond.selects RX5 yX5_sums yX5_sums ∈ th_G := th_G1 (List.mem_of_getElem? (i := 155) rfl) rfl
theorem tw_1_156 : Cond.code yX5_sums cX5_sums 1 (some .int) ∈ th_G := th_G1 (List.mem_of_getElem? (i := 156) rfl) rfl
theorem tw_4_107 : Cond.methodLink RL 157 yX6_sums ∈ th_G := th_G4 (List.mem_of_getElem? (i := 107) rfl) rfl
theorem tw_4_108 : Cond.instanceMethod yX6_sums ∈ th_G := th_G4 (List.mem_of_getElem? (i := 108) rfl) rfl
theorem tw_4_109 : Cond.selects RX6 yX6_sums yX6_sums ∈ th_G := th_G4 (List.mem_of_getElem? (i := 109) rfl) rfl
theorem tw_4_110 : Cond.code yX6_sums cX6_sums 1 (some .int) ∈ th_G := th_G4 (List.mem_of_getElem? (i := 110) rfl) rfl
theorem tw_2_233 : Cond.methodLink RL 158 yL_sumAt ∈ th_G := th_G2 (List.mem_of_getElem? (i := 233) rfl) rfl
theorem tw_2_234 : Cond.static yL_sumAt ∈ th_G := th_G2 (List.mem_of_getElem? (i := 234) rfl) rfl
theorem tw_2_235 : Cond.codeWith yL_sumAt cL_sumAt 4 (some .int) [(0, 9, 12, 13)] ∈ th_G := th_G2 (List.mem_of_getElem? (i := 235) rfl) rfl
theorem tw_2_236 : Cond.methodLink RL 55 yX5_sumAt ∈ th_G := th_G2 (List.mem_of_getElem? (i := 236) rfl) rfl
theorem tw_2_237 : Cond.instanceMethod yX5_sumAt ∈ th_G := th_G2 (List.mem_of_getElem? (i := 237) rfl) rfl
theorem tw_2_238 : Cond.selects RX5 yX5_sumAt yX5_sumAt ∈ th_G := th_G2 (List.mem_of_getElem? (i := 238) rfl) rfl
theorem tw_2_239 : Cond.code yX5_sumAt cX5_sumAt 2 (some .int) ∈ th_G := th_G2 (List.mem_of_getElem? (i := 239) rfl) rfl
theorem tw_3_1 : Cond.methodLink RX5 114 yX0_read ∈ th_G := th_G3 (List.mem_of_getElem? (i := 1) rfl) rfl
theorem tw_4_111 : Cond.methodLink RL 160 yX6_sumAt ∈ th_G := th_G4 (List.mem_of_getElem? (i := 111) rfl) rfl
theorem tw_4_112 : Cond.instanceMethod yX6_sumAt ∈ th_G := th_G4 (List.mem_of_getElem? (i := 112) rfl) rfl
theorem tw_4_113 : Cond.selects RX6 yX6_sumAt yX6_sumAt ∈ th_G := th_G4 (List.mem_of_getElem? (i := 113) rfl) rfl
theorem tw_4_114 : Cond.code yX6_sumAt cX6_sumAt 2 (some .int) ∈ th_G := th_G4 (List.mem_of_getElem? (i := 114) rfl) rfl
theorem tw_3_2 : Cond.methodLink RL 161 yL_testLeaf ∈ th_G := th_G3 (List.mem_of_getElem? (i := 2) rfl) rfl
theorem tw_3_3 : Cond.static yL_testLeaf ∈ th_G := th_G3 (List.mem_of_getElem? (i := 3) rfl) rfl
theorem tw_3_4 : Cond.codeWith yL_testLeaf cL_testLeaf 7 (some .int) [(0, 21, 24, 13), (0, 21, 28, 15)] ∈ th_G := th_G3 (List.mem_of_getElem? (i := 4) rfl) rfl
theorem tw_3_5 : Cond.methodLink RL 58 yX5_testLeaf ∈ th_G := th_G3 (List.mem_of_getElem? (i := 5) rfl) rfl
theorem tw_3_6 : Cond.instanceMethod yX5_testLeaf ∈ th_G := th_G3 (List.mem_of_getElem? (i := 6) rfl) rfl
theorem tw_3_7 : Cond.selects RX5 yX5_testLeaf yX5_testLeaf ∈ th_G := th_G3 (List.mem_of_getElem? (i := 7) rfl) rfl
theorem tw_3_8 : Cond.code yX5_testLeaf cX5_testLeaf 6 (some .boolean) ∈ th_G := th_G3 (List.mem_of_getElem? (i := 8) rfl) rfl
theorem tw_3_9 : Cond.methodLink RX5 117 yX0_provesLeaf ∈ th_G := th_G3 (List.mem_of_getElem? (i := 9) rfl) rfl
theorem tw_3_10 : Cond.instanceMethod yX0_provesLeaf ∈ th_G := th_G3 (List.mem_of_getElem? (i := 10) rfl) rfl
theorem tw_3_11 : Cond.selects RX0 yX0_provesLeaf yX0_provesLeaf ∈ th_G := th_G3 (List.mem_of_getElem? (i := 11) rfl) rfl
theorem tw_3_12 : Cond.code yX0_provesLeaf cX0_provesLeaf 8 (some .boolean) ∈ th_G := th_G3 (List.mem_of_getElem? (i := 12) rfl) rfl
theorem tw_3_14 : Cond.methodLink RX0 57 yX4_isFirstAt ∈ th_G := th_G3 (List.mem_of_getElem? (i := 14) rfl) rfl
theorem tw_3_15 : Cond.instanceMethod yX4_isFirstAt ∈ th_G := th_G3 (List.mem_of_getElem? (i := 15) rfl) rfl
theorem tw_3_16 : Cond.selects RX4 yX4_isFirstAt yX4_isFirstAt ∈ th_G := th_G3 (List.mem_of_getElem? (i := 16) rfl) rfl
theorem tw_3_17 : Cond.code yX4_isFirstAt cX4_isFirstAt 3 (some .boolean) ∈ th_G := th_G3 (List.mem_of_getElem? (i := 17) rfl) rfl
theorem tw_4_115 : Cond.methodLink RL 164 yX6_testLeaf ∈ th_G := th_G4 (List.mem_of_getElem? (i := 115) rfl) rfl
theorem tw_4_116 : Cond.instanceMethod yX6_testLeaf ∈ th_G := th_G4 (List.mem_of_getElem? (i := 116) rfl) rfl
theorem tw_4_117 : Cond.selects RX6 yX6_testLeaf yX6_testLeaf ∈ th_G := th_G4 (List.mem_of_getElem? (i := 117) rfl) rfl
theorem tw_4_118 : Cond.code yX6_testLeaf cX6_testLeaf 8 (some .boolean) ∈ th_G := th_G4 (List.mem_of_getElem? (i := 118) rfl) rfl
theorem tw_3_19 : Cond.methodLink RL 165 yL_testGrowth ∈ th_G := th_G3 (List.mem_of_getElem? (i := 19) rfl) rfl
theorem tw_3_20 : Cond.static yL_testGrowth ∈ th_G := th_G3 (List.mem_of_getElem? (i := 20) rfl) rfl
theorem tw_3_21 : Cond.codeWith yL_testGrowth cL_testGrowth 7 (some .int) [(0, 21, 24, 13), (0, 21, 28, 15)] ∈ th_G := th_G3 (List.mem_of_getElem? (i := 21) rfl) rfl
theorem tw_3_22 : Cond.methodLink RL 62 yX5_testGrowth ∈ th_G := th_G3 (List.mem_of_getElem? (i := 22) rfl) rfl
theorem tw_3_23 : Cond.instanceMethod yX5_testGrowth ∈ th_G := th_G3 (List.mem_of_getElem? (i := 23) rfl) rfl
theorem tw_3_24 : Cond.selects RX5 yX5_testGrowth yX5_testGrowth ∈ th_G := th_G3 (List.mem_of_getElem? (i := 24) rfl) rfl
theorem tw_3_25 : Cond.code yX5_testGrowth cX5_testGrowth 7 (some .boolean) ∈ th_G := th_G3 (List.mem_of_getElem? (i := 25) rfl) rfl
theorem tw_3_26 : Cond.methodLink RX5 121 yX0_provesGrowth ∈ th_G := th_G3 (List.mem_of_getElem? (i := 26) rfl) rfl
theorem tw_3_27 : Cond.instanceMethod yX0_provesGrowth ∈ th_G := th_G3 (List.mem_of_getElem? (i := 27) rfl) rfl
theorem tw_3_28 : Cond.selects RX0 yX0_provesGrowth yX0_provesGrowth ∈ th_G := th_G3 (List.mem_of_getElem? (i := 28) rfl) rfl
theorem tw_3_29 : Cond.code yX0_provesGrowth cX0_provesGrowth 11 (some .boolean) ∈ th_G := th_G3 (List.mem_of_getElem? (i := 29) rfl) rfl
theorem tw_3_30 : Cond.methodLink RX0 64 yX4_endsInTrust ∈ th_G := th_G3 (List.mem_of_getElem? (i := 30) rfl) rfl
theorem tw_4_119 : Cond.methodLink RL 167 yX6_testGrowth ∈ th_G := th_G4 (List.mem_of_getElem? (i := 119) rfl) rfl
theorem tw_4_120 : Cond.instanceMethod yX6_testGrowth ∈ th_G := th_G4 (List.mem_of_getElem? (i := 120) rfl) rfl
theorem tw_4_121 : Cond.selects RX6 yX6_testGrowth yX6_testGrowth ∈ th_G := th_G4 (List.mem_of_getElem? (i := 121) rfl) rfl
theorem tw_4_122 : Cond.code yX6_testGrowth cX6_testGrowth 13 (some .boolean) ∈ th_G := th_G4 (List.mem_of_getElem? (i := 122) rfl) rfl
theorem tw_3_31 : Cond.methodLink RL 168 yL_testKey ∈ th_G := th_G3 (List.mem_of_getElem? (i := 31) rfl) rfl
theorem tw_3_32 : Cond.static yL_testKey ∈ th_G := th_G3 (List.mem_of_getElem? (i := 32) rfl) rfl
theorem tw_3_33 : Cond.codeWith yL_testKey cL_testKey 5 (some .int) [(0, 17, 20, 15)] ∈ th_G := th_G3 (List.mem_of_getElem? (i := 33) rfl) rfl
theorem tw_3_34 : Cond.methodLink RL 65 yX5_testKey ∈ th_G := th_G3 (List.mem_of_getElem? (i := 34) rfl) rfl
theorem tw_3_35 : Cond.instanceMethod yX5_testKey ∈ th_G := th_G3 (List.mem_of_getElem? (i := 35) rfl) rfl
theorem tw_3_36 : Cond.selects RX5 yX5_testKey yX5_testKey ∈ th_G := th_G3 (List.mem_of_getElem? (i := 36) rfl) rfl
theorem tw_3_37 : Cond.code yX5_testKey cX5_testKey 3 (some .boolean) ∈ th_G := th_G3 (List.mem_of_getElem? (i := 37) rfl) rfl
theorem tw_1_161 : Cond.methodLink RX5 124 yX1_rootSum ∈ th_G := th_G1 (List.mem_of_getElem? (i := 161) rfl) rfl
theorem tw_1_162 : Cond.instanceMethod yX1_rootSum ∈ th_G := th_G1 (List.mem_of_getElem? (i := 162) rfl) rfl
theorem tw_1_163 : Cond.selects RX1 yX1_rootSum yX1_rootSum ∈ th_G := th_G1 (List.mem_of_getElem? (i := 163) rfl) rfl
theorem tw_1_164 : Cond.code yX1_rootSum cX1_rootSum 1 (some .int) ∈ th_G := th_G1 (List.mem_of_getElem? (i := 164) rfl) rfl
theorem tw_3_38 : Cond.methodLink RX5 127 yX0_provesKey ∈ th_G := th_G3 (List.mem_of_getElem? (i := 38) rfl) rfl
theorem tw_3_39 : Cond.instanceMethod yX0_provesKey ∈ th_G := th_G3 (List.mem_of_getElem? (i := 39) rfl) rfl
theorem tw_3_40 : Cond.selects RX0 yX0_provesKey yX0_provesKey ∈ th_G := th_G3 (List.mem_of_getElem? (i := 40) rfl) rfl
theorem tw_3_41 : Cond.code yX0_provesKey cX0_provesKey 8 (some .boolean) ∈ th_G := th_G3 (List.mem_of_getElem? (i := 41) rfl) rfl
theorem tw_3_43 : Cond.static yX5_keySum ∈ th_G := th_G3 (List.mem_of_getElem? (i := 43) rfl) rfl
theorem tw_3_44 : Cond.code yX5_keySum cX5_keySum 1 (some .int) ∈ th_G := th_G3 (List.mem_of_getElem? (i := 44) rfl) rfl
theorem tw_3_45 : Cond.methodLink RX5 187 yX5_leafSum ∈ th_G := th_G3 (List.mem_of_getElem? (i := 45) rfl) rfl
theorem tw_3_47 : Cond.static yX5_mapMix ∈ th_G := th_G3 (List.mem_of_getElem? (i := 47) rfl) rfl
theorem tw_3_48 : Cond.code yX5_mapMix cX5_mapMix 2 (some .int) ∈ th_G := th_G3 (List.mem_of_getElem? (i := 48) rfl) rfl
theorem tw_3_49 : Cond.methodLink RX5 190 yX5_mix ∈ th_G := th_G3 (List.mem_of_getElem? (i := 49) rfl) rfl
theorem tw_4_123 : Cond.methodLink RL 170 yX6_testKey ∈ th_G := th_G4 (List.mem_of_getElem? (i := 123) rfl) rfl
theorem tw_4_124 : Cond.instanceMethod yX6_testKey ∈ th_G := th_G4 (List.mem_of_getElem? (i := 124) rfl) rfl
theorem tw_4_125 : Cond.selects RX6 yX6_testKey yX6_testKey ∈ th_G := th_G4 (List.mem_of_getElem? (i := 125) rfl) rfl
theorem tw_4_126 : Cond.code yX6_testKey cX6_testKey 5 (some .boolean) ∈ th_G := th_G4 (List.mem_of_getElem? (i := 126) rfl) rfl
theorem tw_3_50 : Cond.methodLink RL 171 yL_put ∈ th_G := th_G3 (List.mem_of_getElem? (i := 50) rfl) rfl
theorem tw_3_51 : Cond.static yL_put ∈ th_G := th_G3 (List.mem_of_getElem? (i := 51) rfl) rfl
theorem tw_3_52 : Cond.codeWith yL_put cL_put 5 (some .int) [(0, 10, 13, 15)] ∈ th_G := th_G3 (List.mem_of_getElem? (i := 52) rfl) rfl
theorem tw_3_53 : Cond.methodLink RL 69 yX5_put ∈ th_G := th_G3 (List.mem_of_getElem? (i := 53) rfl) rfl
theorem tw_3_54 : Cond.instanceMethod yX5_put ∈ th_G := th_G3 (List.mem_of_getElem? (i := 54) rfl) rfl
theorem tw_3_55 : Cond.selects RX5 yX5_put yX5_put ∈ th_G := th_G3 (List.mem_of_getElem? (i := 55) rfl) rfl
theorem tw_3_56 : Cond.code yX5_put cX5_put 3 (some .int) ∈ th_G := th_G3 (List.mem_of_getElem? (i := 56) rfl) rfl
theorem tw_3_57 : Cond.methodLink RX5 131 yX1_replace ∈ th_G := th_G3 (List.mem_of_getElem? (i := 57) rfl) rfl
theorem tw_3_58 : Cond.instanceMethod yX1_replace ∈ th_G := th_G3 (List.mem_of_getElem? (i := 58) rfl) rfl
theorem tw_3_59 : Cond.selects RX1 yX1_replace yX1_replace ∈ th_G := th_G3 (List.mem_of_getElem? (i := 59) rfl) rfl
theorem tw_3_60 : Cond.code yX1_replace cX1_replace 6 (some .int) ∈ th_G := th_G3 (List.mem_of_getElem? (i := 60) rfl) rfl
theorem tw_4_127 : Cond.methodLink RL 173 yX6_put ∈ th_G := th_G4 (List.mem_of_getElem? (i := 127) rfl) rfl
theorem tw_4_128 : Cond.instanceMethod yX6_put ∈ th_G := th_G4 (List.mem_of_getElem? (i := 128) rfl) rfl
theorem tw_4_129 : Cond.selects RX6 yX6_put yX6_put ∈ th_G := th_G4 (List.mem_of_getElem? (i := 129) rfl) rfl
theorem tw_4_130 : Cond.code yX6_put cX6_put 4 (some .int) ∈ th_G := th_G4 (List.mem_of_getElem? (i := 130) rfl) rfl
theorem tw_3_63 : Cond.methodLink RL 174 yL_remove ∈ th_G := th_G3 (List.mem_of_getElem? (i := 63) rfl) rfl
theorem tw_3_64 : Cond.static yL_remove ∈ th_G := th_G3 (List.mem_of_getElem? (i := 64) rfl) rfl
theorem tw_3_65 : Cond.codeWith yL_remove cL_remove 4 (some .int) [(0, 9, 12, 15)] ∈ th_G := th_G3 (List.mem_of_getElem? (i := 65) rfl) rfl
theorem tw_3_66 : Cond.methodLink RL 72 yX5_remove ∈ th_G := th_G3 (List.mem_of_getElem? (i := 66) rfl) rfl
theorem tw_3_67 : Cond.instanceMethod yX5_remove ∈ th_G := th_G3 (List.mem_of_getElem? (i := 67) rfl) rfl
theorem tw_3_68 : Cond.selects RX5 yX5_remove yX5_remove ∈ th_G := th_G3 (List.mem_of_getElem? (i := 68) rfl) rfl
theorem tw_3_69 : Cond.code yX5_remove cX5_remove 2 (some .int) ∈ th_G := th_G3 (List.mem_of_getElem? (i := 69) rfl) rfl
theorem tw_4_131 : Cond.methodLink RL 176 yX6_remove ∈ th_G := th_G4 (List.mem_of_getElem? (i := 131) rfl) rfl
theorem tw_4_132 : Cond.instanceMethod yX6_remove ∈ th_G := th_G4 (List.mem_of_getElem? (i := 132) rfl) rfl
theorem tw_4_133 : Cond.selects RX6 yX6_remove yX6_remove ∈ th_G := th_G4 (List.mem_of_getElem? (i := 133) rfl) rfl
theorem tw_4_134 : Cond.code yX6_remove cX6_remove 3 (some .int) ∈ th_G := th_G4 (List.mem_of_getElem? (i := 134) rfl) rfl
theorem tw_3_70 : Cond.methodLink RL 177 yL_get ∈ th_G := th_G3 (List.mem_of_getElem? (i := 70) rfl) rfl
theorem tw_3_71 : Cond.static yL_get ∈ th_G := th_G3 (List.mem_of_getElem? (i := 71) rfl) rfl
theorem tw_3_72 : Cond.codeWith yL_get cL_get 4 (some .int) [(0, 9, 12, 15)] ∈ th_G := th_G3 (List.mem_of_getElem? (i := 72) rfl) rfl
theorem tw_3_73 : Cond.methodLink RL 75 yX5_get ∈ th_G := th_G3 (List.mem_of_getElem? (i := 73) rfl) rfl
theorem tw_3_74 : Cond.instanceMethod yX5_get ∈ th_G := th_G3 (List.mem_of_getElem? (i := 74) rfl) rfl
theorem tw_3_75 : Cond.selects RX5 yX5_get yX5_get ∈ th_G := th_G3 (List.mem_of_getElem? (i := 75) rfl) rfl
theorem tw_3_76 : Cond.code yX5_get cX5_get 2 (some .int) ∈ th_G := th_G3 (List.mem_of_getElem? (i := 76) rfl) rfl
theorem tw_3_77 : Cond.methodLink RX5 135 yX1_valueAt ∈ th_G := th_G3 (List.mem_of_getElem? (i := 77) rfl) rfl
theorem tw_3_78 : Cond.instanceMethod yX1_valueAt ∈ th_G := th_G3 (List.mem_of_getElem? (i := 78) rfl) rfl
theorem tw_3_79 : Cond.selects RX1 yX1_valueAt yX1_valueAt ∈ th_G := th_G3 (List.mem_of_getElem? (i := 79) rfl) rfl
theorem tw_3_80 : Cond.code yX1_valueAt cX1_valueAt 2 (some .int) ∈ th_G := th_G3 (List.mem_of_getElem? (i := 80) rfl) rfl
theorem tw_4_135 : Cond.methodLink RL 179 yX6_get ∈ th_G := th_G4 (List.mem_of_getElem? (i := 135) rfl) rfl
theorem tw_4_136 : Cond.instanceMethod yX6_get ∈ th_G := th_G4 (List.mem_of_getElem? (i := 136) rfl) rfl
theorem tw_4_137 : Cond.selects RX6 yX6_get yX6_get ∈ th_G := th_G4 (List.mem_of_getElem? (i := 137) rfl) rfl
theorem tw_4_138 : Cond.code yX6_get cX6_get 2 (some .int) ∈ th_G := th_G4 (List.mem_of_getElem? (i := 138) rfl) rfl
theorem tw_1_157 : Cond.methodLink RL 180 yX5_mapRoot ∈ th_G := th_G1 (List.mem_of_getElem? (i := 157) rfl) rfl
theorem tw_1_158 : Cond.instanceMethod yX5_mapRoot ∈ th_G := th_G1 (List.mem_of_getElem? (i := 158) rfl) rfl
theorem tw_1_159 : Cond.selects RX5 yX5_mapRoot yX5_mapRoot ∈ th_G := th_G1 (List.mem_of_getElem? (i := 159) rfl) rfl
theorem tw_1_160 : Cond.code yX5_mapRoot cX5_mapRoot 1 (some .int) ∈ th_G := th_G1 (List.mem_of_getElem? (i := 160) rfl) rfl
theorem tw_4_139 : Cond.methodLink RL 183 yX6_mapRoot ∈ th_G := th_G4 (List.mem_of_getElem? (i := 139) rfl) rfl
theorem tw_4_140 : Cond.instanceMethod yX6_mapRoot ∈ th_G := th_G4 (List.mem_of_getElem? (i := 140) rfl) rfl
theorem tw_4_141 : Cond.selects RX6 yX6_mapRoot yX6_mapRoot ∈ th_G := th_G4 (List.mem_of_getElem? (i := 141) rfl) rfl
theorem tw_4_142 : Cond.code yX6_mapRoot cX6_mapRoot 1 (some .int) ∈ th_G := th_G4 (List.mem_of_getElem? (i := 142) rfl) rfl
theorem tw_3_81 : Cond.methodLink RL 184 yL_show ∈ th_G := th_G3 (List.mem_of_getElem? (i := 81) rfl) rfl
theorem tw_3_82 : Cond.static yL_show ∈ th_G := th_G3 (List.mem_of_getElem? (i := 82) rfl) rfl
theorem tw_3_83 : Cond.codeWith yL_show cL_show 5 (some .int) [(0, 17, 20, 13)] ∈ th_G := th_G3 (List.mem_of_getElem? (i := 83) rfl) rfl
theorem tw_3_84 : Cond.methodLink RL 78 yX5_show ∈ th_G := th_G3 (List.mem_of_getElem? (i := 84) rfl) rfl
theorem tw_3_85 : Cond.instanceMethod yX5_show ∈ th_G := th_G3 (List.mem_of_getElem? (i := 85) rfl) rfl
theorem tw_3_86 : Cond.selects RX5 yX5_show yX5_show ∈ th_G := th_G3 (List.mem_of_getElem? (i := 86) rfl) rfl
theorem tw_3_87 : Cond.code yX5_show cX5_show 4 (some .boolean) ∈ th_G := th_G3 (List.mem_of_getElem? (i := 87) rfl) rfl
theorem tw_3_88 : Cond.methodLink RX5 136 yX5_watcherNumbered ∈ th_G := th_G3 (List.mem_of_getElem? (i := 88) rfl) rfl
theorem tw_3_90 : Cond.instanceMethod yX5_watcherNumbered ∈ th_G := th_G3 (List.mem_of_getElem? (i := 90) rfl) rfl
theorem tw_0_7 : Cond.selects RX5 yX5_watcherNumbered yX5_watcherNumbered ∈ th_G := th_G0 (List.mem_of_getElem? (i := 7) rfl) rfl
theorem tw_3_91 : Cond.code yX5_watcherNumbered cX5_watcherNumbered 3 (some (.object "TreeheadGallery$Watcher")) ∈ th_G := th_G3 (List.mem_of_getElem? (i := 91) rfl) rfl
theorem tw_3_93 : Cond.methodLink RX5 140 yX3_look ∈ th_G := th_G3 (List.mem_of_getElem? (i := 93) rfl) rfl
theorem tw_3_94 : Cond.instanceMethod yX3_look ∈ th_G := th_G3 (List.mem_of_getElem? (i := 94) rfl) rfl
theorem tw_3_95 : Cond.selects RX3 yX3_look yX3_look ∈ th_G := th_G3 (List.mem_of_getElem? (i := 95) rfl) rfl
theorem tw_3_96 : Cond.code yX3_look cX3_look 3 (some .boolean) ∈ th_G := th_G3 (List.mem_of_getElem? (i := 96) rfl) rfl
theorem tw_1_109 : Cond.fieldLink RX3 21 "TreeheadGallery$Watcher" "kept" "LTreeheadGallery$View;" ∈ th_G := th_G1 (List.mem_of_getElem? (i := 109) rfl) rfl
theorem tw_1_114 : Cond.fieldLink RX3 38 "TreeheadGallery$Watcher" "alarmed" "Z" ∈ th_G := th_G1 (List.mem_of_getElem? (i := 114) rfl) rfl
theorem tw_3_97 : Cond.methodLink RX3 30 yX2_rootAt ∈ th_G := th_G3 (List.mem_of_getElem? (i := 97) rfl) rfl
theorem tw_3_98 : Cond.methodLink RX3 34 yX3_countNew ∈ th_G := th_G3 (List.mem_of_getElem? (i := 98) rfl) rfl
theorem tw_3_100 : Cond.instanceMethod yX3_countNew ∈ th_G := th_G3 (List.mem_of_getElem? (i := 100) rfl) rfl
theorem tw_0_8 : Cond.selects RX3 yX3_countNew yX3_countNew ∈ th_G := th_G0 (List.mem_of_getElem? (i := 8) rfl) rfl
theorem tw_3_101 : Cond.code yX3_countNew cX3_countNew 3 none ∈ th_G := th_G3 (List.mem_of_getElem? (i := 101) rfl) rfl
theorem tw_1_118 : Cond.fieldLink RX3 45 "TreeheadGallery$Watcher" "found" "I" ∈ th_G := th_G1 (List.mem_of_getElem? (i := 118) rfl) rfl
theorem tw_3_102 : Cond.methodLink RX3 42 yX2_valueAt ∈ th_G := th_G3 (List.mem_of_getElem? (i := 102) rfl) rfl
theorem tw_4_143 : Cond.methodLink RL 186 yX6_show ∈ th_G := th_G4 (List.mem_of_getElem? (i := 143) rfl) rfl
theorem tw_4_144 : Cond.instanceMethod yX6_show ∈ th_G := th_G4 (List.mem_of_getElem? (i := 144) rfl) rfl
theorem tw_4_145 : Cond.selects RX6 yX6_show yX6_show ∈ th_G := th_G4 (List.mem_of_getElem? (i := 145) rfl) rfl
theorem tw_4_146 : Cond.code yX6_show cX6_show 6 (some .boolean) ∈ th_G := th_G4 (List.mem_of_getElem? (i := 146) rfl) rfl
theorem tw_4_147 : Cond.methodLink RX6 156 yX6_isWatcher ∈ th_G := th_G4 (List.mem_of_getElem? (i := 147) rfl) rfl
theorem tw_4_148 : Cond.static yX6_isWatcher ∈ th_G := th_G4 (List.mem_of_getElem? (i := 148) rfl) rfl
theorem tw_4_149 : Cond.code yX6_isWatcher cX6_isWatcher 1 (some .boolean) ∈ th_G := th_G4 (List.mem_of_getElem? (i := 149) rfl) rfl
theorem tw_3_103 : Cond.methodLink RL 187 yL_gossip ∈ th_G := th_G3 (List.mem_of_getElem? (i := 103) rfl) rfl
theorem tw_3_104 : Cond.static yL_gossip ∈ th_G := th_G3 (List.mem_of_getElem? (i := 104) rfl) rfl
theorem tw_3_105 : Cond.codeWith yL_gossip cL_gossip 5 (some .int) [(0, 17, 20, 13)] ∈ th_G := th_G3 (List.mem_of_getElem? (i := 105) rfl) rfl
theorem tw_3_106 : Cond.methodLink RL 81 yX5_gossip ∈ th_G := th_G3 (List.mem_of_getElem? (i := 106) rfl) rfl
theorem tw_3_107 : Cond.instanceMethod yX5_gossip ∈ th_G := th_G3 (List.mem_of_getElem? (i := 107) rfl) rfl
theorem tw_3_108 : Cond.selects RX5 yX5_gossip yX5_gossip ∈ th_G := th_G3 (List.mem_of_getElem? (i := 108) rfl) rfl
theorem tw_3_109 : Cond.code yX5_gossip cX5_gossip 6 (some .boolean) ∈ th_G := th_G3 (List.mem_of_getElem? (i := 109) rfl) rfl
theorem tw_3_110 : Cond.methodLink RX5 144 yX3_fits ∈ th_G := th_G3 (List.mem_of_getElem? (i := 110) rfl) rfl
theorem tw_3_111 : Cond.instanceMethod yX3_fits ∈ th_G := th_G3 (List.mem_of_getElem? (i := 111) rfl) rfl
theorem tw_3_112 : Cond.selects RX3 yX3_fits yX3_fits ∈ th_G := th_G3 (List.mem_of_getElem? (i := 112) rfl) rfl
theorem tw_3_113 : Cond.code yX3_fits cX3_fits 2 (some .boolean) ∈ th_G := th_G3 (List.mem_of_getElem? (i := 113) rfl) rfl
theorem tw_4_150 : Cond.methodLink RL 189 yX6_gossip ∈ th_G := th_G4 (List.mem_of_getElem? (i := 150) rfl) rfl
theorem tw_4_151 : Cond.instanceMethod yX6_gossip ∈ th_G := th_G4 (List.mem_of_getElem? (i := 151) rfl) rfl
theorem tw_4_152 : Cond.selects RX6 yX6_gossip yX6_gossip ∈ th_G := th_G4 (List.mem_of_getElem? (i := 152) rfl) rfl
theorem tw_4_153 : Cond.code yX6_gossip cX6_gossip 6 (some .boolean) ∈ th_G := th_G4 (List.mem_of_getElem? (i := 153) rfl) rfl
theorem tw_3_114 : Cond.methodLink RL 190 yL_follow ∈ th_G := th_G3 (List.mem_of_getElem? (i := 114) rfl) rfl
theorem tw_3_115 : Cond.static yL_follow ∈ th_G := th_G3 (List.mem_of_getElem? (i := 115) rfl) rfl
theorem tw_3_116 : Cond.codeWith yL_follow cL_follow 4 (some .int) [(0, 6, 9, 13), (0, 6, 12, 15)] ∈ th_G := th_G3 (List.mem_of_getElem? (i := 116) rfl) rfl
theorem tw_3_117 : Cond.methodLink RL 84 yX5_follow ∈ th_G := th_G3 (List.mem_of_getElem? (i := 117) rfl) rfl
theorem tw_3_118 : Cond.instanceMethod yX5_follow ∈ th_G := th_G3 (List.mem_of_getElem? (i := 118) rfl) rfl
theorem tw_3_119 : Cond.selects RX5 yX5_follow yX5_follow ∈ th_G := th_G3 (List.mem_of_getElem? (i := 119) rfl) rfl
theorem tw_3_120 : Cond.code yX5_follow cX5_follow 4 none ∈ th_G := th_G3 (List.mem_of_getElem? (i := 120) rfl) rfl
theorem tw_4_154 : Cond.methodLink RL 193 yX6_follow ∈ th_G := th_G4 (List.mem_of_getElem? (i := 154) rfl) rfl
theorem tw_4_155 : Cond.instanceMethod yX6_follow ∈ th_G := th_G4 (List.mem_of_getElem? (i := 155) rfl) rfl
theorem tw_4_156 : Cond.selects RX6 yX6_follow yX6_follow ∈ th_G := th_G4 (List.mem_of_getElem? (i := 156) rfl) rfl
theorem tw_4_157 : Cond.code yX6_follow cX6_follow 3 none ∈ th_G := th_G4 (List.mem_of_getElem? (i := 157) rfl) rfl
theorem tw_3_121 : Cond.methodLink RL 194 yL_isAlarmed ∈ th_G := th_G3 (List.mem_of_getElem? (i := 121) rfl) rfl
theorem tw_3_122 : Cond.static yL_isAlarmed ∈ th_G := th_G3 (List.mem_of_getElem? (i := 122) rfl) rfl
theorem tw_3_123 : Cond.codeWith yL_isAlarmed cL_isAlarmed 4 (some .int) [(0, 16, 19, 13)] ∈ th_G := th_G3 (List.mem_of_getElem? (i := 123) rfl) rfl
theorem tw_3_124 : Cond.methodLink RL 88 yX5_isAlarmed ∈ th_G := th_G3 (List.mem_of_getElem? (i := 124) rfl) rfl
theorem tw_3_125 : Cond.instanceMethod yX5_isAlarmed ∈ th_G := th_G3 (List.mem_of_getElem? (i := 125) rfl) rfl
theorem tw_3_126 : Cond.selects RX5 yX5_isAlarmed yX5_isAlarmed ∈ th_G := th_G3 (List.mem_of_getElem? (i := 126) rfl) rfl
theorem tw_3_127 : Cond.code yX5_isAlarmed cX5_isAlarmed 2 (some .boolean) ∈ th_G := th_G3 (List.mem_of_getElem? (i := 127) rfl) rfl
theorem tw_4_158 : Cond.methodLink RL 196 yX6_isAlarmed ∈ th_G := th_G4 (List.mem_of_getElem? (i := 158) rfl) rfl
theorem tw_4_159 : Cond.instanceMethod yX6_isAlarmed ∈ th_G := th_G4 (List.mem_of_getElem? (i := 159) rfl) rfl
theorem tw_4_160 : Cond.selects RX6 yX6_isAlarmed yX6_isAlarmed ∈ th_G := th_G4 (List.mem_of_getElem? (i := 160) rfl) rfl
theorem tw_4_161 : Cond.code yX6_isAlarmed cX6_isAlarmed 2 (some .boolean) ∈ th_G := th_G4 (List.mem_of_getElem? (i := 161) rfl) rfl
theorem tw_3_128 : Cond.methodLink RL 197 yL_keptSize ∈ th_G := th_G3 (List.mem_of_getElem? (i := 128) rfl) rfl
theorem tw_3_129 : Cond.static yL_keptSize ∈ th_G := th_G3 (List.mem_of_getElem? (i := 129) rfl) rfl
theorem tw_3_130 : Cond.codeWith yL_keptSize cL_keptSize 4 (some .int) [(0, 9, 12, 13)] ∈ th_G := th_G3 (List.mem_of_getElem? (i := 130) rfl) rfl
theorem tw_3_131 : Cond.methodLink RL 92 yX5_keptSize ∈ th_G := th_G3 (List.mem_of_getElem? (i := 131) rfl) rfl
theorem tw_3_132 : Cond.instanceMethod yX5_keptSize ∈ th_G := th_G3 (List.mem_of_getElem? (i := 132) rfl) rfl
theorem tw_3_133 : Cond.selects RX5 yX5_keptSize yX5_keptSize ∈ th_G := th_G3 (List.mem_of_getElem? (i := 133) rfl) rfl
theorem tw_3_134 : Cond.code yX5_keptSize cX5_keptSize 2 (some .int) ∈ th_G := th_G3 (List.mem_of_getElem? (i := 134) rfl) rfl
theorem tw_4_162 : Cond.methodLink RL 199 yX6_keptSize ∈ th_G := th_G4 (List.mem_of_getElem? (i := 162) rfl) rfl
theorem tw_4_163 : Cond.instanceMethod yX6_keptSize ∈ th_G := th_G4 (List.mem_of_getElem? (i := 163) rfl) rfl
theorem tw_4_164 : Cond.selects RX6 yX6_keptSize yX6_keptSize ∈ th_G := th_G4 (List.mem_of_getElem? (i := 164) rfl) rfl
theorem tw_4_165 : Cond.code yX6_keptSize cX6_keptSize 2 (some .int) ∈ th_G := th_G4 (List.mem_of_getElem? (i := 165) rfl) rfl
theorem tw_3_135 : Cond.methodLink RL 200 yL_keptRoot ∈ th_G := th_G3 (List.mem_of_getElem? (i := 135) rfl) rfl
theorem tw_3_136 : Cond.static yL_keptRoot ∈ th_G := th_G3 (List.mem_of_getElem? (i := 136) rfl) rfl
theorem tw_3_137 : Cond.codeWith yL_keptRoot cL_keptRoot 4 (some .int) [(0, 9, 12, 13)] ∈ th_G := th_G3 (List.mem_of_getElem? (i := 137) rfl) rfl
theorem tw_3_138 : Cond.methodLink RL 95 yX5_keptRoot ∈ th_G := th_G3 (List.mem_of_getElem? (i := 138) rfl) rfl
theorem tw_3_139 : Cond.instanceMethod yX5_keptRoot ∈ th_G := th_G3 (List.mem_of_getElem? (i := 139) rfl) rfl
theorem tw_3_140 : Cond.selects RX5 yX5_keptRoot yX5_keptRoot ∈ th_G := th_G3 (List.mem_of_getElem? (i := 140) rfl) rfl
theorem tw_3_141 : Cond.code yX5_keptRoot cX5_keptRoot 2 (some .int) ∈ th_G := th_G3 (List.mem_of_getElem? (i := 141) rfl) rfl
theorem tw_4_166 : Cond.methodLink RL 202 yX6_keptRoot ∈ th_G := th_G4 (List.mem_of_getElem? (i := 166) rfl) rfl
theorem tw_4_167 : Cond.instanceMethod yX6_keptRoot ∈ th_G := th_G4 (List.mem_of_getElem? (i := 167) rfl) rfl
theorem tw_4_168 : Cond.selects RX6 yX6_keptRoot yX6_keptRoot ∈ th_G := th_G4 (List.mem_of_getElem? (i := 168) rfl) rfl
theorem tw_4_169 : Cond.code yX6_keptRoot cX6_keptRoot 2 (some .int) ∈ th_G := th_G4 (List.mem_of_getElem? (i := 169) rfl) rfl
theorem tw_3_142 : Cond.methodLink RL 203 yL_counted ∈ th_G := th_G3 (List.mem_of_getElem? (i := 142) rfl) rfl
theorem tw_3_143 : Cond.static yL_counted ∈ th_G := th_G3 (List.mem_of_getElem? (i := 143) rfl) rfl
theorem tw_3_144 : Cond.codeWith yL_counted cL_counted 4 (some .int) [(0, 9, 12, 13)] ∈ th_G := th_G3 (List.mem_of_getElem? (i := 144) rfl) rfl
theorem tw_3_145 : Cond.methodLink RL 98 yX5_counted ∈ th_G := th_G3 (List.mem_of_getElem? (i := 145) rfl) rfl
theorem tw_3_146 : Cond.instanceMethod yX5_counted ∈ th_G := th_G3 (List.mem_of_getElem? (i := 146) rfl) rfl
theorem tw_3_147 : Cond.selects RX5 yX5_counted yX5_counted ∈ th_G := th_G3 (List.mem_of_getElem? (i := 147) rfl) rfl
theorem tw_3_148 : Cond.code yX5_counted cX5_counted 2 (some .int) ∈ th_G := th_G3 (List.mem_of_getElem? (i := 148) rfl) rfl
theorem tw_4_170 : Cond.methodLink RL 205 yX6_counted ∈ th_G := th_G4 (List.mem_of_getElem? (i := 170) rfl) rfl
theorem tw_4_171 : Cond.instanceMethod yX6_counted ∈ th_G := th_G4 (List.mem_of_getElem? (i := 171) rfl) rfl
theorem tw_4_172 : Cond.selects RX6 yX6_counted yX6_counted ∈ th_G := th_G4 (List.mem_of_getElem? (i := 172) rfl) rfl
theorem tw_4_173 : Cond.code yX6_counted cX6_counted 2 (some .int) ∈ th_G := th_G4 (List.mem_of_getElem? (i := 173) rfl) rfl
def th_nw : Cond → Bool
  | .methodLinkNest .. => true
  | .fieldLinkNest .. => true
  | _ => false
def th_N (U : State) : Prop := ∀ w ∈ lw_tbl, th_nw w = true → va_Nw w U
theorem th_N.warm {s U : State} (hW : s.WarmedH U.vm) (h : th_N s) : th_N U := fun w hw hn => by
  have h1 := h w hw hn
  cases w <;> first | (simp [th_nw] at hn; done) | exact va_Nw.warmM hW h1 | exact va_Nw.warmF hW h1
theorem tn_1_28 {U : State} (h : th_N U) : va_Nw (Cond.methodLinkNest RX5 23 yX0_init RX5) U := h _ (List.mem_append_right _ (List.mem_append_left _ (List.mem_of_getElem? (i := 28) rfl))) rfl
theorem tn_1_34 {U : State} (h : th_N U) : va_Nw (Cond.methodLinkNest RX0 17 yX4_init RX5) U := h _ (List.mem_append_right _ (List.mem_append_left _ (List.mem_of_getElem? (i := 34) rfl))) rfl
theorem tn_1_38 {U : State} (h : th_N U) : va_Nw (Cond.fieldLinkNest RX0 33 "TreeheadGallery$Way" "rows" "I" RX5) U := h _ (List.mem_append_right _ (List.mem_append_left _ (List.mem_of_getElem? (i := 38) rfl))) rfl
theorem tn_1_64 {U : State} (h : th_N U) : va_Nw (Cond.fieldLinkNest RX5 87 "TreeheadGallery$Desk" "count" "I" RX5) U := h _ (List.mem_append_right _ (List.mem_append_left _ (List.mem_of_getElem? (i := 64) rfl))) rfl
theorem tn_1_88 {U : State} (h : th_N U) : va_Nw (Cond.methodLinkNest RX5 39 yX2_init RX5) U := h _ (List.mem_append_right _ (List.mem_append_left _ (List.mem_of_getElem? (i := 88) rfl))) rfl
theorem tn_1_93 {U : State} (h : th_N U) : va_Nw (Cond.fieldLinkNest RX3 25 "TreeheadGallery$View" "leaves" "I" RX5) U := h _ (List.mem_append_right _ (List.mem_append_left _ (List.mem_of_getElem? (i := 93) rfl))) rfl
theorem tn_1_94 {U : State} (h : th_N U) : va_Nw (Cond.fieldLinkNest RX5 58 "TreeheadGallery$View" "leaves" "I" RX5) U := h _ (List.mem_append_right _ (List.mem_append_left _ (List.mem_of_getElem? (i := 94) rfl))) rfl
theorem tn_1_105 {U : State} (h : th_N U) : va_Nw (Cond.methodLinkNest RX5 40 yX3_init RX5) U := h _ (List.mem_append_right _ (List.mem_append_left _ (List.mem_of_getElem? (i := 105) rfl))) rfl
theorem tn_1_111 {U : State} (h : th_N U) : va_Nw (Cond.fieldLinkNest RX5 158 "TreeheadGallery$Watcher" "size" "I" RX5) U := h _ (List.mem_append_right _ (List.mem_append_left _ (List.mem_of_getElem? (i := 111) rfl))) rfl
theorem tn_1_113 {U : State} (h : th_N U) : va_Nw (Cond.fieldLinkNest RX5 161 "TreeheadGallery$Watcher" "root" "I" RX5) U := h _ (List.mem_append_right _ (List.mem_append_left _ (List.mem_of_getElem? (i := 113) rfl))) rfl
theorem tn_1_115 {U : State} (h : th_N U) : va_Nw (Cond.fieldLinkNest RX5 148 "TreeheadGallery$Watcher" "alarmed" "Z" RX5) U := h _ (List.mem_append_right _ (List.mem_append_left _ (List.mem_of_getElem? (i := 115) rfl))) rfl
theorem tn_1_117 {U : State} (h : th_N U) : va_Nw (Cond.fieldLinkNest RX5 152 "TreeheadGallery$Watcher" "followed" "I" RX5) U := h _ (List.mem_append_right _ (List.mem_append_left _ (List.mem_of_getElem? (i := 117) rfl))) rfl
theorem tn_1_119 {U : State} (h : th_N U) : va_Nw (Cond.fieldLinkNest RX5 155 "TreeheadGallery$Watcher" "found" "I" RX5) U := h _ (List.mem_append_right _ (List.mem_append_left _ (List.mem_of_getElem? (i := 119) rfl))) rfl
theorem tn_2_50 {U : State} (h : th_N U) : va_Nw (Cond.methodLinkNest RX2 22 yX5_leafSum RX5) U := h _ (List.mem_append_right _ (List.mem_append_right _ (List.mem_append_left _ (List.mem_of_getElem? (i := 50) rfl)))) rfl
theorem tn_2_56 {U : State} (h : th_N U) : va_Nw (Cond.methodLinkNest RX2 26 yX5_mix RX5) U := h _ (List.mem_append_right _ (List.mem_append_right _ (List.mem_append_left _ (List.mem_of_getElem? (i := 56) rfl)))) rfl
theorem tn_3_13 {U : State} (h : th_N U) : va_Nw (Cond.methodLinkNest RX0 54 yX5_leafSum RX5) U := h _ (List.mem_append_right _ (List.mem_append_right _ (List.mem_append_right _ (List.mem_append_left _ (List.mem_of_getElem? (i := 13) rfl))))) rfl
theorem tn_3_18 {U : State} (h : th_N U) : va_Nw (Cond.methodLinkNest RX0 61 yX5_mix RX5) U := h _ (List.mem_append_right _ (List.mem_append_right _ (List.mem_append_right _ (List.mem_append_left _ (List.mem_of_getElem? (i := 18) rfl))))) rfl
theorem tn_3_42 {U : State} (h : th_N U) : va_Nw (Cond.methodLinkNest RX0 68 yX5_keySum RX5) U := h _ (List.mem_append_right _ (List.mem_append_right _ (List.mem_append_right _ (List.mem_append_left _ (List.mem_of_getElem? (i := 42) rfl))))) rfl
theorem tn_3_46 {U : State} (h : th_N U) : va_Nw (Cond.methodLinkNest RX0 71 yX5_mapMix RX5) U := h _ (List.mem_append_right _ (List.mem_append_right _ (List.mem_append_right _ (List.mem_append_left _ (List.mem_of_getElem? (i := 46) rfl))))) rfl
theorem tn_3_61 {U : State} (h : th_N U) : va_Nw (Cond.methodLinkNest RX1 18 yX5_keySum RX5) U := h _ (List.mem_append_right _ (List.mem_append_right _ (List.mem_append_right _ (List.mem_append_left _ (List.mem_of_getElem? (i := 61) rfl))))) rfl
theorem tn_3_62 {U : State} (h : th_N U) : va_Nw (Cond.methodLinkNest RX1 22 yX5_mapMix RX5) U := h _ (List.mem_append_right _ (List.mem_append_right _ (List.mem_append_right _ (List.mem_append_left _ (List.mem_of_getElem? (i := 62) rfl))))) rfl
theorem inX0 : ∀ w ∈ wsX00, w ∈ th_G := by
  have h : ∀ w ∈ wsX00, w ∈ lw_tbl := by decide +kernel
  exact fun w hw => List.mem_filter.mpr ⟨h w hw, List.all_eq_true.mp (show wsX00.all goodWord = true by decide +kernel) w hw⟩
theorem inX1 : ∀ w ∈ wsX10, w ∈ th_G := by
  have h : ∀ w ∈ wsX10, w ∈ lw_tbl := by decide +kernel
  exact fun w hw => List.mem_filter.mpr ⟨h w hw, List.all_eq_true.mp (show wsX10.all goodWord = true by decide +kernel) w hw⟩
theorem inX2 : ∀ w ∈ wsX20, w ∈ th_G := by
  have h : ∀ w ∈ wsX20, w ∈ lw_tbl := by decide +kernel
  exact fun w hw => List.mem_filter.mpr ⟨h w hw, List.all_eq_true.mp (show wsX20.all goodWord = true by decide +kernel) w hw⟩
theorem inX3 : ∀ w ∈ wsX30, w ∈ th_G := by
  have h : ∀ w ∈ wsX30, w ∈ lw_tbl := by decide +kernel
  exact fun w hw => List.mem_filter.mpr ⟨h w hw, List.all_eq_true.mp (show wsX30.all goodWord = true by decide +kernel) w hw⟩
theorem inX4 : ∀ w ∈ wsX40, w ∈ th_G := by
  have h : ∀ w ∈ wsX40, w ∈ lw_tbl := by decide +kernel
  exact fun w hw => List.mem_filter.mpr ⟨h w hw, List.all_eq_true.mp (show wsX40.all goodWord = true by decide +kernel) w hw⟩
theorem inX5 : ∀ w ∈ wsX50, w ∈ th_G := by
  have h : ∀ w ∈ wsX50, w ∈ lw_tbl := by decide +kernel
  exact fun w hw => List.mem_filter.mpr ⟨h w hw, List.all_eq_true.mp (show wsX50.all goodWord = true by decide +kernel) w hw⟩
theorem inX6 : ∀ w ∈ wsX60, w ∈ th_G := by
  have h : ∀ w ∈ wsX60, w ∈ lw_tbl := by decide +kernel
  exact fun w hw => List.mem_filter.mpr ⟨h w hw, List.all_eq_true.mp (show wsX60.all goodWord = true by decide +kernel) w hw⟩
end
section
theorem dX0_init_0 : decode cX0_init 0 = .ok (.aload_n 0, 1) := by decide +kernel
theorem dX0_init_1 : decode cX0_init 1 = .ok (.invokespecial 3, 3) := by decide +kernel
theorem dX0_init_4 : decode cX0_init 4 = .ok (.aload_n 0, 1) := by decide +kernel
theorem dX0_init_5 : decode cX0_init 5 = .ok (.bipush 12, 2) := by decide +kernel
theorem dX0_init_7 : decode cX0_init 7 = .ok (.newarray .int, 2) := by decide +kernel
theorem dX0_init_9 : decode cX0_init 9 = .ok (.putfield 9, 3) := by decide +kernel
theorem dX0_init_12 : decode cX0_init 12 = .ok (.aload_n 0, 1) := by decide +kernel
theorem dX0_init_13 : decode cX0_init 13 = .ok (.new 15, 3) := by decide +kernel
theorem dX0_init_16 : decode cX0_init 16 = .ok (.dup, 1) := by decide +kernel
theorem dX0_init_17 : decode cX0_init 17 = .ok (.invokespecial 17, 3) := by decide +kernel
theorem dX0_init_20 : decode cX0_init 20 = .ok (.putfield 18, 3) := by decide +kernel
theorem dX0_init_23 : decode cX0_init 23 = .ok (.return_, 1) := by decide +kernel
theorem dX0_takeLeafProof_0 : decode cX0_takeLeafProof 0 = .ok (.aload_n 0, 1) := by decide +kernel
theorem dX0_takeLeafProof_1 : decode cX0_takeLeafProof 1 = .ok (.getfield 18, 3) := by decide +kernel
theorem dX0_takeLeafProof_4 : decode cX0_takeLeafProof 4 = .ok (.iload_n 2, 1) := by decide +kernel
theorem dX0_takeLeafProof_5 : decode cX0_takeLeafProof 5 = .ok (.iload_n 3, 1) := by decide +kernel
theorem dX0_takeLeafProof_6 : decode cX0_takeLeafProof 6 = .ok (.invokevirtual 22, 3) := by decide +kernel
theorem dX0_takeLeafProof_9 : decode cX0_takeLeafProof 9 = .ok (.aload_n 0, 1) := by decide +kernel
theorem dX0_takeLeafProof_10 : decode cX0_takeLeafProof 10 = .ok (.aload_n 1, 1) := by decide +kernel
theorem dX0_takeLeafProof_11 : decode cX0_takeLeafProof 11 = .ok (.invokevirtual 26, 3) := by decide +kernel
theorem dX0_takeLeafProof_14 : decode cX0_takeLeafProof 14 = .ok (.return_, 1) := by decide +kernel
theorem dX0_takeGrowthProof_0 : decode cX0_takeGrowthProof 0 = .ok (.aload_n 0, 1) := by decide +kernel
theorem dX0_takeGrowthProof_1 : decode cX0_takeGrowthProof 1 = .ok (.getfield 18, 3) := by decide +kernel
theorem dX0_takeGrowthProof_4 : decode cX0_takeGrowthProof 4 = .ok (.iload_n 2, 1) := by decide +kernel
theorem dX0_takeGrowthProof_5 : decode cX0_takeGrowthProof 5 = .ok (.iload_n 3, 1) := by decide +kernel
theorem dX0_takeGrowthProof_6 : decode cX0_takeGrowthProof 6 = .ok (.invokevirtual 30, 3) := by decide +kernel
theorem dX0_takeGrowthProof_9 : decode cX0_takeGrowthProof 9 = .ok (.aload_n 0, 1) := by decide +kernel
theorem dX0_takeGrowthProof_10 : decode cX0_takeGrowthProof 10 = .ok (.aload_n 1, 1) := by decide +kernel
theorem dX0_takeGrowthProof_11 : decode cX0_takeGrowthProof 11 = .ok (.invokevirtual 26, 3) := by decide +kernel
theorem dX0_takeGrowthProof_14 : decode cX0_takeGrowthProof 14 = .ok (.return_, 1) := by decide +kernel
theorem dX0_takeRoots_0 : decode cX0_takeRoots 0 = .ok (.aload_n 0, 1) := by decide +kernel
theorem dX0_takeRoots_1 : decode cX0_takeRoots 1 = .ok (.aload_n 0, 1) := by decide +kernel
theorem dX0_takeRoots_2 : decode cX0_takeRoots 2 = .ok (.getfield 18, 3) := by decide +kernel
theorem dX0_takeRoots_5 : decode cX0_takeRoots 5 = .ok (.getfield 33, 3) := by decide +kernel
theorem dX0_takeRoots_8 : decode cX0_takeRoots 8 = .ok (.putfield 37, 3) := by decide +kernel
theorem dX0_takeRoots_11 : decode cX0_takeRoots 11 = .ok (.iconst 0, 1) := by decide +kernel
theorem dX0_takeRoots_12 : decode cX0_takeRoots 12 = .ok (.istore_n 2, 1) := by decide +kernel
theorem dX0_takeRoots_13 : decode cX0_takeRoots 13 = .ok (.iload_n 2, 1) := by decide +kernel
theorem dX0_takeRoots_14 : decode cX0_takeRoots 14 = .ok (.aload_n 0, 1) := by decide +kernel
theorem dX0_takeRoots_15 : decode cX0_takeRoots 15 = .ok (.getfield 37, 3) := by decide +kernel
theorem dX0_takeRoots_18 : decode cX0_takeRoots 18 = .ok (.if_icmp .ge 33, 3) := by decide +kernel
theorem dX0_takeRoots_21 : decode cX0_takeRoots 21 = .ok (.iload_n 2, 1) := by decide +kernel
theorem dX0_takeRoots_22 : decode cX0_takeRoots 22 = .ok (.aload_n 0, 1) := by decide +kernel
theorem dX0_takeRoots_23 : decode cX0_takeRoots 23 = .ok (.getfield 9, 3) := by decide +kernel
theorem dX0_takeRoots_26 : decode cX0_takeRoots 26 = .ok (.arraylength, 1) := by decide +kernel
theorem dX0_takeRoots_27 : decode cX0_takeRoots 27 = .ok (.if_icmp .ge 24, 3) := by decide +kernel
theorem dX0_takeRoots_30 : decode cX0_takeRoots 30 = .ok (.aload_n 0, 1) := by decide +kernel
theorem dX0_takeRoots_31 : decode cX0_takeRoots 31 = .ok (.getfield 9, 3) := by decide +kernel
theorem dX0_takeRoots_34 : decode cX0_takeRoots 34 = .ok (.iload_n 2, 1) := by decide +kernel
theorem dX0_takeRoots_35 : decode cX0_takeRoots 35 = .ok (.aload_n 0, 1) := by decide +kernel
theorem dX0_takeRoots_36 : decode cX0_takeRoots 36 = .ok (.getfield 18, 3) := by decide +kernel
theorem dX0_takeRoots_39 : decode cX0_takeRoots 39 = .ok (.aload_n 1, 1) := by decide +kernel
theorem dX0_takeRoots_40 : decode cX0_takeRoots 40 = .ok (.iload_n 2, 1) := by decide +kernel
theorem dX0_takeRoots_41 : decode cX0_takeRoots 41 = .ok (.invokevirtual 40, 3) := by decide +kernel
theorem dX0_takeRoots_44 : decode cX0_takeRoots 44 = .ok (.iastore, 1) := by decide +kernel
theorem dX0_takeRoots_45 : decode cX0_takeRoots 45 = .ok (.iinc 2 1, 3) := by decide +kernel
theorem dX0_takeRoots_48 : decode cX0_takeRoots 48 = .ok (.goto (-35), 3) := by decide +kernel
theorem dX0_takeRoots_51 : decode cX0_takeRoots 51 = .ok (.return_, 1) := by decide +kernel
theorem dX0_takeKeyProof_0 : decode cX0_takeKeyProof 0 = .ok (.aload_n 0, 1) := by decide +kernel
theorem dX0_takeKeyProof_1 : decode cX0_takeKeyProof 1 = .ok (.bipush 6, 2) := by decide +kernel
theorem dX0_takeKeyProof_3 : decode cX0_takeKeyProof 3 = .ok (.putfield 37, 3) := by decide +kernel
theorem dX0_takeKeyProof_6 : decode cX0_takeKeyProof 6 = .ok (.iconst 0, 1) := by decide +kernel
theorem dX0_takeKeyProof_7 : decode cX0_takeKeyProof 7 = .ok (.istore_n 3, 1) := by decide +kernel
theorem dX0_takeKeyProof_8 : decode cX0_takeKeyProof 8 = .ok (.iload_n 3, 1) := by decide +kernel
theorem dX0_takeKeyProof_9 : decode cX0_takeKeyProof 9 = .ok (.bipush 6, 2) := by decide +kernel
theorem dX0_takeKeyProof_11 : decode cX0_takeKeyProof 11 = .ok (.if_icmp .ge 30, 3) := by decide +kernel
theorem dX0_takeKeyProof_14 : decode cX0_takeKeyProof 14 = .ok (.iload_n 3, 1) := by decide +kernel
theorem dX0_takeKeyProof_15 : decode cX0_takeKeyProof 15 = .ok (.aload_n 0, 1) := by decide +kernel
theorem dX0_takeKeyProof_16 : decode cX0_takeKeyProof 16 = .ok (.getfield 9, 3) := by decide +kernel
theorem dX0_takeKeyProof_19 : decode cX0_takeKeyProof 19 = .ok (.arraylength, 1) := by decide +kernel
theorem dX0_takeKeyProof_20 : decode cX0_takeKeyProof 20 = .ok (.if_icmp .ge 21, 3) := by decide +kernel
theorem dX0_takeKeyProof_23 : decode cX0_takeKeyProof 23 = .ok (.aload_n 0, 1) := by decide +kernel
theorem dX0_takeKeyProof_24 : decode cX0_takeKeyProof 24 = .ok (.getfield 9, 3) := by decide +kernel
theorem dX0_takeKeyProof_27 : decode cX0_takeKeyProof 27 = .ok (.iload_n 3, 1) := by decide +kernel
theorem dX0_takeKeyProof_28 : decode cX0_takeKeyProof 28 = .ok (.aload_n 1, 1) := by decide +kernel
theorem dX0_takeKeyProof_29 : decode cX0_takeKeyProof 29 = .ok (.iload_n 2, 1) := by decide +kernel
theorem dX0_takeKeyProof_30 : decode cX0_takeKeyProof 30 = .ok (.iload_n 3, 1) := by decide +kernel
theorem dX0_takeKeyProof_31 : decode cX0_takeKeyProof 31 = .ok (.invokevirtual 44, 3) := by decide +kernel
theorem dX0_takeKeyProof_34 : decode cX0_takeKeyProof 34 = .ok (.iastore, 1) := by decide +kernel
theorem dX0_takeKeyProof_35 : decode cX0_takeKeyProof 35 = .ok (.iinc 3 1, 3) := by decide +kernel
theorem dX0_takeKeyProof_38 : decode cX0_takeKeyProof 38 = .ok (.goto (-30), 3) := by decide +kernel
theorem dX0_takeKeyProof_41 : decode cX0_takeKeyProof 41 = .ok (.return_, 1) := by decide +kernel
theorem dX0_read_0 : decode cX0_read 0 = .ok (.iload_n 1, 1) := by decide +kernel
theorem dX0_read_1 : decode cX0_read 1 = .ok (.ifCond .lt 29, 3) := by decide +kernel
theorem dX0_read_4 : decode cX0_read 4 = .ok (.iload_n 1, 1) := by decide +kernel
theorem dX0_read_5 : decode cX0_read 5 = .ok (.aload_n 0, 1) := by decide +kernel
theorem dX0_read_6 : decode cX0_read 6 = .ok (.getfield 37, 3) := by decide +kernel
theorem dX0_read_9 : decode cX0_read 9 = .ok (.if_icmp .ge 21, 3) := by decide +kernel
theorem dX0_read_12 : decode cX0_read 12 = .ok (.iload_n 1, 1) := by decide +kernel
theorem dX0_read_13 : decode cX0_read 13 = .ok (.aload_n 0, 1) := by decide +kernel
theorem dX0_read_14 : decode cX0_read 14 = .ok (.getfield 9, 3) := by decide +kernel
theorem dX0_read_17 : decode cX0_read 17 = .ok (.arraylength, 1) := by decide +kernel
theorem dX0_read_18 : decode cX0_read 18 = .ok (.if_icmp .ge 12, 3) := by decide +kernel
theorem dX0_read_21 : decode cX0_read 21 = .ok (.aload_n 0, 1) := by decide +kernel
theorem dX0_read_22 : decode cX0_read 22 = .ok (.getfield 9, 3) := by decide +kernel
theorem dX0_read_25 : decode cX0_read 25 = .ok (.iload_n 1, 1) := by decide +kernel
theorem dX0_read_26 : decode cX0_read 26 = .ok (.iaload, 1) := by decide +kernel
theorem dX0_read_27 : decode cX0_read 27 = .ok (.goto 4, 3) := by decide +kernel
theorem dX0_read_30 : decode cX0_read 30 = .ok (.iconst 0, 1) := by decide +kernel
theorem dX0_read_31 : decode cX0_read 31 = .ok (.ireturn, 1) := by decide +kernel
theorem dX0_write_0 : decode cX0_write 0 = .ok (.iload_n 1, 1) := by decide +kernel
theorem dX0_write_1 : decode cX0_write 1 = .ok (.ifCond .lt 20, 3) := by decide +kernel
theorem dX0_write_4 : decode cX0_write 4 = .ok (.iload_n 1, 1) := by decide +kernel
theorem dX0_write_5 : decode cX0_write 5 = .ok (.aload_n 0, 1) := by decide +kernel
theorem dX0_write_6 : decode cX0_write 6 = .ok (.getfield 37, 3) := by decide +kernel
theorem dX0_write_9 : decode cX0_write 9 = .ok (.if_icmp .gt 12, 3) := by decide +kernel
theorem dX0_write_12 : decode cX0_write 12 = .ok (.iload_n 1, 1) := by decide +kernel
theorem dX0_write_13 : decode cX0_write 13 = .ok (.aload_n 0, 1) := by decide +kernel
theorem dX0_write_14 : decode cX0_write 14 = .ok (.getfield 9, 3) := by decide +kernel
theorem dX0_write_17 : decode cX0_write 17 = .ok (.arraylength, 1) := by decide +kernel
theorem dX0_write_18 : decode cX0_write 18 = .ok (.if_icmp .lt 4, 3) := by decide +kernel
theorem dX0_write_21 : decode cX0_write 21 = .ok (.return_, 1) := by decide +kernel
theorem dX0_write_22 : decode cX0_write 22 = .ok (.aload_n 0, 1) := by decide +kernel
theorem dX0_write_23 : decode cX0_write 23 = .ok (.getfield 9, 3) := by decide +kernel
theorem dX0_write_26 : decode cX0_write 26 = .ok (.iload_n 1, 1) := by decide +kernel
theorem dX0_write_27 : decode cX0_write 27 = .ok (.iload_n 2, 1) := by decide +kernel
theorem dX0_write_28 : decode cX0_write 28 = .ok (.iastore, 1) := by decide +kernel
theorem dX0_write_29 : decode cX0_write 29 = .ok (.aload_n 0, 1) := by decide +kernel
theorem dX0_write_30 : decode cX0_write 30 = .ok (.iload_n 1, 1) := by decide +kernel
theorem dX0_write_31 : decode cX0_write 31 = .ok (.aload_n 0, 1) := by decide +kernel
theorem dX0_write_32 : decode cX0_write 32 = .ok (.getfield 37, 3) := by decide +kernel
theorem dX0_write_35 : decode cX0_write 35 = .ok (.if_icmp .ne 12, 3) := by decide +kernel
theorem dX0_write_38 : decode cX0_write 38 = .ok (.aload_n 0, 1) := by decide +kernel
theorem dX0_write_39 : decode cX0_write 39 = .ok (.getfield 37, 3) := by decide +kernel
theorem dX0_write_42 : decode cX0_write 42 = .ok (.iconst 1, 1) := by decide +kernel
theorem dX0_write_43 : decode cX0_write 43 = .ok (.iadd, 1) := by decide +kernel
theorem dX0_write_44 : decode cX0_write 44 = .ok (.goto 7, 3) := by decide +kernel
theorem dX0_write_47 : decode cX0_write 47 = .ok (.aload_n 0, 1) := by decide +kernel
theorem dX0_write_48 : decode cX0_write 48 = .ok (.getfield 37, 3) := by decide +kernel
theorem dX0_write_51 : decode cX0_write 51 = .ok (.putfield 37, 3) := by decide +kernel
theorem dX0_write_54 : decode cX0_write 54 = .ok (.return_, 1) := by decide +kernel
theorem dX0_dropLast_0 : decode cX0_dropLast 0 = .ok (.aload_n 0, 1) := by decide +kernel
theorem dX0_dropLast_1 : decode cX0_dropLast 1 = .ok (.aload_n 0, 1) := by decide +kernel
theorem dX0_dropLast_2 : decode cX0_dropLast 2 = .ok (.getfield 37, 3) := by decide +kernel
theorem dX0_dropLast_5 : decode cX0_dropLast 5 = .ok (.iconst 1, 1) := by decide +kernel
theorem dX0_dropLast_6 : decode cX0_dropLast 6 = .ok (.isub, 1) := by decide +kernel
theorem dX0_dropLast_7 : decode cX0_dropLast 7 = .ok (.invokevirtual 50, 3) := by decide +kernel
theorem dX0_dropLast_10 : decode cX0_dropLast 10 = .ok (.istore_n 1, 1) := by decide +kernel
theorem dX0_dropLast_11 : decode cX0_dropLast 11 = .ok (.aload_n 0, 1) := by decide +kernel
theorem dX0_dropLast_12 : decode cX0_dropLast 12 = .ok (.aload_n 0, 1) := by decide +kernel
theorem dX0_dropLast_13 : decode cX0_dropLast 13 = .ok (.getfield 37, 3) := by decide +kernel
theorem dX0_dropLast_16 : decode cX0_dropLast 16 = .ok (.ifCond .le 12, 3) := by decide +kernel
theorem dX0_dropLast_19 : decode cX0_dropLast 19 = .ok (.aload_n 0, 1) := by decide +kernel
theorem dX0_dropLast_20 : decode cX0_dropLast 20 = .ok (.getfield 37, 3) := by decide +kernel
theorem dX0_dropLast_23 : decode cX0_dropLast 23 = .ok (.iconst 1, 1) := by decide +kernel
theorem dX0_dropLast_24 : decode cX0_dropLast 24 = .ok (.isub, 1) := by decide +kernel
theorem dX0_dropLast_25 : decode cX0_dropLast 25 = .ok (.goto 4, 3) := by decide +kernel
theorem dX0_dropLast_28 : decode cX0_dropLast 28 = .ok (.iconst 0, 1) := by decide +kernel
theorem dX0_dropLast_29 : decode cX0_dropLast 29 = .ok (.putfield 37, 3) := by decide +kernel
theorem dX0_dropLast_32 : decode cX0_dropLast 32 = .ok (.iload_n 1, 1) := by decide +kernel
theorem dX0_dropLast_33 : decode cX0_dropLast 33 = .ok (.ireturn, 1) := by decide +kernel
theorem dX0_provesLeaf_0 : decode cX0_provesLeaf 0 = .ok (.aload_n 0, 1) := by decide +kernel
theorem dX0_provesLeaf_1 : decode cX0_provesLeaf 1 = .ok (.getfield 18, 3) := by decide +kernel
theorem dX0_provesLeaf_4 : decode cX0_provesLeaf 4 = .ok (.iload_n 2, 1) := by decide +kernel
theorem dX0_provesLeaf_5 : decode cX0_provesLeaf 5 = .ok (.iload_n 3, 1) := by decide +kernel
theorem dX0_provesLeaf_6 : decode cX0_provesLeaf 6 = .ok (.invokevirtual 22, 3) := by decide +kernel
theorem dX0_provesLeaf_9 : decode cX0_provesLeaf 9 = .ok (.aload_n 0, 1) := by decide +kernel
theorem dX0_provesLeaf_10 : decode cX0_provesLeaf 10 = .ok (.getfield 37, 3) := by decide +kernel
theorem dX0_provesLeaf_13 : decode cX0_provesLeaf 13 = .ok (.aload_n 0, 1) := by decide +kernel
theorem dX0_provesLeaf_14 : decode cX0_provesLeaf 14 = .ok (.getfield 18, 3) := by decide +kernel
theorem dX0_provesLeaf_17 : decode cX0_provesLeaf 17 = .ok (.getfield 33, 3) := by decide +kernel
theorem dX0_provesLeaf_20 : decode cX0_provesLeaf 20 = .ok (.if_icmp .eq 5, 3) := by decide +kernel
theorem dX0_provesLeaf_23 : decode cX0_provesLeaf 23 = .ok (.iconst 0, 1) := by decide +kernel
theorem dX0_provesLeaf_24 : decode cX0_provesLeaf 24 = .ok (.ireturn, 1) := by decide +kernel
theorem dX0_provesLeaf_25 : decode cX0_provesLeaf 25 = .ok (.iload_n 1, 1) := by decide +kernel
theorem dX0_provesLeaf_26 : decode cX0_provesLeaf 26 = .ok (.invokestatic 54, 3) := by decide +kernel
theorem dX0_provesLeaf_29 : decode cX0_provesLeaf 29 = .ok (.istore 5, 2) := by decide +kernel
theorem dX0_provesLeaf_31 : decode cX0_provesLeaf 31 = .ok (.iconst 0, 1) := by decide +kernel
theorem dX0_provesLeaf_32 : decode cX0_provesLeaf 32 = .ok (.istore 6, 2) := by decide +kernel
theorem dX0_provesLeaf_34 : decode cX0_provesLeaf 34 = .ok (.iload 6, 2) := by decide +kernel
theorem dX0_provesLeaf_36 : decode cX0_provesLeaf 36 = .ok (.aload_n 0, 1) := by decide +kernel
theorem dX0_provesLeaf_37 : decode cX0_provesLeaf 37 = .ok (.getfield 37, 3) := by decide +kernel
theorem dX0_provesLeaf_40 : decode cX0_provesLeaf 40 = .ok (.if_icmp .ge 48, 3) := by decide +kernel
theorem dX0_provesLeaf_43 : decode cX0_provesLeaf 43 = .ok (.aload_n 0, 1) := by decide +kernel
theorem dX0_provesLeaf_44 : decode cX0_provesLeaf 44 = .ok (.iload 6, 2) := by decide +kernel
theorem dX0_provesLeaf_46 : decode cX0_provesLeaf 46 = .ok (.invokevirtual 50, 3) := by decide +kernel
theorem dX0_provesLeaf_49 : decode cX0_provesLeaf 49 = .ok (.istore 7, 2) := by decide +kernel
theorem dX0_provesLeaf_51 : decode cX0_provesLeaf 51 = .ok (.aload_n 0, 1) := by decide +kernel
theorem dX0_provesLeaf_52 : decode cX0_provesLeaf 52 = .ok (.getfield 18, 3) := by decide +kernel
theorem dX0_provesLeaf_55 : decode cX0_provesLeaf 55 = .ok (.iload 6, 2) := by decide +kernel
theorem dX0_provesLeaf_57 : decode cX0_provesLeaf 57 = .ok (.invokevirtual 57, 3) := by decide +kernel
theorem dX0_provesLeaf_60 : decode cX0_provesLeaf 60 = .ok (.ifCond .eq 13, 3) := by decide +kernel
theorem dX0_provesLeaf_63 : decode cX0_provesLeaf 63 = .ok (.iload 7, 2) := by decide +kernel
theorem dX0_provesLeaf_65 : decode cX0_provesLeaf 65 = .ok (.iload 5, 2) := by decide +kernel
theorem dX0_provesLeaf_67 : decode cX0_provesLeaf 67 = .ok (.invokestatic 61, 3) := by decide +kernel
theorem dX0_provesLeaf_70 : decode cX0_provesLeaf 70 = .ok (.goto 10, 3) := by decide +kernel
theorem dX0_provesLeaf_73 : decode cX0_provesLeaf 73 = .ok (.iload 5, 2) := by decide +kernel
theorem dX0_provesLeaf_75 : decode cX0_provesLeaf 75 = .ok (.iload 7, 2) := by decide +kernel
theorem dX0_provesLeaf_77 : decode cX0_provesLeaf 77 = .ok (.invokestatic 61, 3) := by decide +kernel
theorem dX0_provesLeaf_80 : decode cX0_provesLeaf 80 = .ok (.istore 5, 2) := by decide +kernel
theorem dX0_provesLeaf_82 : decode cX0_provesLeaf 82 = .ok (.iinc 6 1, 3) := by decide +kernel
theorem dX0_provesLeaf_85 : decode cX0_provesLeaf 85 = .ok (.goto (-51), 3) := by decide +kernel
theorem dX0_provesLeaf_88 : decode cX0_provesLeaf 88 = .ok (.iload 5, 2) := by decide +kernel
theorem dX0_provesLeaf_90 : decode cX0_provesLeaf 90 = .ok (.iload 4, 2) := by decide +kernel
theorem dX0_provesLeaf_92 : decode cX0_provesLeaf 92 = .ok (.if_icmp .ne 7, 3) := by decide +kernel
theorem dX0_provesLeaf_95 : decode cX0_provesLeaf 95 = .ok (.iconst 1, 1) := by decide +kernel
theorem dX0_provesLeaf_96 : decode cX0_provesLeaf 96 = .ok (.goto 4, 3) := by decide +kernel
theorem dX0_provesLeaf_99 : decode cX0_provesLeaf 99 = .ok (.iconst 0, 1) := by decide +kernel
theorem dX0_provesLeaf_100 : decode cX0_provesLeaf 100 = .ok (.ireturn, 1) := by decide +kernel
theorem dX0_provesGrowth_0 : decode cX0_provesGrowth 0 = .ok (.aload_n 0, 1) := by decide +kernel
theorem dX0_provesGrowth_1 : decode cX0_provesGrowth 1 = .ok (.getfield 18, 3) := by decide +kernel
theorem dX0_provesGrowth_4 : decode cX0_provesGrowth 4 = .ok (.iload_n 1, 1) := by decide +kernel
theorem dX0_provesGrowth_5 : decode cX0_provesGrowth 5 = .ok (.iload_n 3, 1) := by decide +kernel
theorem dX0_provesGrowth_6 : decode cX0_provesGrowth 6 = .ok (.invokevirtual 30, 3) := by decide +kernel
theorem dX0_provesGrowth_9 : decode cX0_provesGrowth 9 = .ok (.aload_n 0, 1) := by decide +kernel
theorem dX0_provesGrowth_10 : decode cX0_provesGrowth 10 = .ok (.getfield 37, 3) := by decide +kernel
theorem dX0_provesGrowth_13 : decode cX0_provesGrowth 13 = .ok (.aload_n 0, 1) := by decide +kernel
theorem dX0_provesGrowth_14 : decode cX0_provesGrowth 14 = .ok (.getfield 18, 3) := by decide +kernel
theorem dX0_provesGrowth_17 : decode cX0_provesGrowth 17 = .ok (.getfield 33, 3) := by decide +kernel
theorem dX0_provesGrowth_20 : decode cX0_provesGrowth 20 = .ok (.if_icmp .eq 5, 3) := by decide +kernel
theorem dX0_provesGrowth_23 : decode cX0_provesGrowth 23 = .ok (.iconst 0, 1) := by decide +kernel
theorem dX0_provesGrowth_24 : decode cX0_provesGrowth 24 = .ok (.ireturn, 1) := by decide +kernel
theorem dX0_provesGrowth_25 : decode cX0_provesGrowth 25 = .ok (.aload_n 0, 1) := by decide +kernel
theorem dX0_provesGrowth_26 : decode cX0_provesGrowth 26 = .ok (.getfield 18, 3) := by decide +kernel
theorem dX0_provesGrowth_29 : decode cX0_provesGrowth 29 = .ok (.invokevirtual 64, 3) := by decide +kernel
theorem dX0_provesGrowth_32 : decode cX0_provesGrowth 32 = .ok (.istore 5, 2) := by decide +kernel
theorem dX0_provesGrowth_34 : decode cX0_provesGrowth 34 = .ok (.iload 5, 2) := by decide +kernel
theorem dX0_provesGrowth_36 : decode cX0_provesGrowth 36 = .ok (.ifCond .eq 7, 3) := by decide +kernel
theorem dX0_provesGrowth_39 : decode cX0_provesGrowth 39 = .ok (.iload_n 2, 1) := by decide +kernel
theorem dX0_provesGrowth_40 : decode cX0_provesGrowth 40 = .ok (.goto 8, 3) := by decide +kernel
theorem dX0_provesGrowth_43 : decode cX0_provesGrowth 43 = .ok (.aload_n 0, 1) := by decide +kernel
theorem dX0_provesGrowth_44 : decode cX0_provesGrowth 44 = .ok (.iconst 0, 1) := by decide +kernel
theorem dX0_provesGrowth_45 : decode cX0_provesGrowth 45 = .ok (.invokevirtual 50, 3) := by decide +kernel
theorem dX0_provesGrowth_48 : decode cX0_provesGrowth 48 = .ok (.istore 6, 2) := by decide +kernel
theorem dX0_provesGrowth_50 : decode cX0_provesGrowth 50 = .ok (.iload 6, 2) := by decide +kernel
theorem dX0_provesGrowth_52 : decode cX0_provesGrowth 52 = .ok (.istore 7, 2) := by decide +kernel
theorem dX0_provesGrowth_54 : decode cX0_provesGrowth 54 = .ok (.iload 5, 2) := by decide +kernel
theorem dX0_provesGrowth_56 : decode cX0_provesGrowth 56 = .ok (.ifCond .eq 7, 3) := by decide +kernel
theorem dX0_provesGrowth_59 : decode cX0_provesGrowth 59 = .ok (.iconst 0, 1) := by decide +kernel
theorem dX0_provesGrowth_60 : decode cX0_provesGrowth 60 = .ok (.goto 4, 3) := by decide +kernel
theorem dX0_provesGrowth_63 : decode cX0_provesGrowth 63 = .ok (.iconst 1, 1) := by decide +kernel
theorem dX0_provesGrowth_64 : decode cX0_provesGrowth 64 = .ok (.istore 8, 2) := by decide +kernel
theorem dX0_provesGrowth_66 : decode cX0_provesGrowth 66 = .ok (.iload 8, 2) := by decide +kernel
theorem dX0_provesGrowth_68 : decode cX0_provesGrowth 68 = .ok (.aload_n 0, 1) := by decide +kernel
theorem dX0_provesGrowth_69 : decode cX0_provesGrowth 69 = .ok (.getfield 37, 3) := by decide +kernel
theorem dX0_provesGrowth_72 : decode cX0_provesGrowth 72 = .ok (.if_icmp .ge 71, 3) := by decide +kernel
theorem dX0_provesGrowth_75 : decode cX0_provesGrowth 75 = .ok (.aload_n 0, 1) := by decide +kernel
theorem dX0_provesGrowth_76 : decode cX0_provesGrowth 76 = .ok (.iload 8, 2) := by decide +kernel
theorem dX0_provesGrowth_78 : decode cX0_provesGrowth 78 = .ok (.invokevirtual 50, 3) := by decide +kernel
theorem dX0_provesGrowth_81 : decode cX0_provesGrowth 81 = .ok (.istore 9, 2) := by decide +kernel
theorem dX0_provesGrowth_83 : decode cX0_provesGrowth 83 = .ok (.aload_n 0, 1) := by decide +kernel
theorem dX0_provesGrowth_84 : decode cX0_provesGrowth 84 = .ok (.getfield 18, 3) := by decide +kernel
theorem dX0_provesGrowth_87 : decode cX0_provesGrowth 87 = .ok (.iload 8, 2) := by decide +kernel
theorem dX0_provesGrowth_89 : decode cX0_provesGrowth 89 = .ok (.invokevirtual 57, 3) := by decide +kernel
theorem dX0_provesGrowth_92 : decode cX0_provesGrowth 92 = .ok (.istore 10, 2) := by decide +kernel
theorem dX0_provesGrowth_94 : decode cX0_provesGrowth 94 = .ok (.iload 10, 2) := by decide +kernel
theorem dX0_provesGrowth_96 : decode cX0_provesGrowth 96 = .ok (.ifCond .eq 13, 3) := by decide +kernel
theorem dX0_provesGrowth_99 : decode cX0_provesGrowth 99 = .ok (.iload 9, 2) := by decide +kernel
theorem dX0_provesGrowth_101 : decode cX0_provesGrowth 101 = .ok (.iload 6, 2) := by decide +kernel
theorem dX0_provesGrowth_103 : decode cX0_provesGrowth 103 = .ok (.invokestatic 61, 3) := by decide +kernel
theorem dX0_provesGrowth_106 : decode cX0_provesGrowth 106 = .ok (.goto 5, 3) := by decide +kernel
theorem dX0_provesGrowth_109 : decode cX0_provesGrowth 109 = .ok (.iload 6, 2) := by decide +kernel
theorem dX0_provesGrowth_111 : decode cX0_provesGrowth 111 = .ok (.istore 6, 2) := by decide +kernel
theorem dX0_provesGrowth_113 : decode cX0_provesGrowth 113 = .ok (.iload 10, 2) := by decide +kernel
theorem dX0_provesGrowth_115 : decode cX0_provesGrowth 115 = .ok (.ifCond .eq 13, 3) := by decide +kernel
theorem dX0_provesGrowth_118 : decode cX0_provesGrowth 118 = .ok (.iload 9, 2) := by decide +kernel
theorem dX0_provesGrowth_120 : decode cX0_provesGrowth 120 = .ok (.iload 7, 2) := by decide +kernel
theorem dX0_provesGrowth_122 : decode cX0_provesGrowth 122 = .ok (.invokestatic 61, 3) := by decide +kernel
theorem dX0_provesGrowth_125 : decode cX0_provesGrowth 125 = .ok (.goto 10, 3) := by decide +kernel
theorem dX0_provesGrowth_128 : decode cX0_provesGrowth 128 = .ok (.iload 7, 2) := by decide +kernel
theorem dX0_provesGrowth_130 : decode cX0_provesGrowth 130 = .ok (.iload 9, 2) := by decide +kernel
theorem dX0_provesGrowth_132 : decode cX0_provesGrowth 132 = .ok (.invokestatic 61, 3) := by decide +kernel
theorem dX0_provesGrowth_135 : decode cX0_provesGrowth 135 = .ok (.istore 7, 2) := by decide +kernel
theorem dX0_provesGrowth_137 : decode cX0_provesGrowth 137 = .ok (.iinc 8 1, 3) := by decide +kernel
theorem dX0_provesGrowth_140 : decode cX0_provesGrowth 140 = .ok (.goto (-74), 3) := by decide +kernel
theorem dX0_provesGrowth_143 : decode cX0_provesGrowth 143 = .ok (.iload 6, 2) := by decide +kernel
theorem dX0_provesGrowth_145 : decode cX0_provesGrowth 145 = .ok (.iload_n 2, 1) := by decide +kernel
theorem dX0_provesGrowth_146 : decode cX0_provesGrowth 146 = .ok (.if_icmp .ne 14, 3) := by decide +kernel
theorem dX0_provesGrowth_149 : decode cX0_provesGrowth 149 = .ok (.iload 7, 2) := by decide +kernel
theorem dX0_provesGrowth_151 : decode cX0_provesGrowth 151 = .ok (.iload 4, 2) := by decide +kernel
theorem dX0_provesGrowth_153 : decode cX0_provesGrowth 153 = .ok (.if_icmp .ne 7, 3) := by decide +kernel
theorem dX0_provesGrowth_156 : decode cX0_provesGrowth 156 = .ok (.iconst 1, 1) := by decide +kernel
theorem dX0_provesGrowth_157 : decode cX0_provesGrowth 157 = .ok (.goto 4, 3) := by decide +kernel
theorem dX0_provesGrowth_160 : decode cX0_provesGrowth 160 = .ok (.iconst 0, 1) := by decide +kernel
theorem dX0_provesGrowth_161 : decode cX0_provesGrowth 161 = .ok (.ireturn, 1) := by decide +kernel
theorem dX0_provesKey_0 : decode cX0_provesKey 0 = .ok (.aload_n 0, 1) := by decide +kernel
theorem dX0_provesKey_1 : decode cX0_provesKey 1 = .ok (.getfield 37, 3) := by decide +kernel
theorem dX0_provesKey_4 : decode cX0_provesKey 4 = .ok (.bipush 6, 2) := by decide +kernel
theorem dX0_provesKey_6 : decode cX0_provesKey 6 = .ok (.if_icmp .eq 5, 3) := by decide +kernel
theorem dX0_provesKey_9 : decode cX0_provesKey 9 = .ok (.iconst 0, 1) := by decide +kernel
theorem dX0_provesKey_10 : decode cX0_provesKey 10 = .ok (.ireturn, 1) := by decide +kernel
theorem dX0_provesKey_11 : decode cX0_provesKey 11 = .ok (.iload_n 2, 1) := by decide +kernel
theorem dX0_provesKey_12 : decode cX0_provesKey 12 = .ok (.invokestatic 68, 3) := by decide +kernel
theorem dX0_provesKey_15 : decode cX0_provesKey 15 = .ok (.istore 4, 2) := by decide +kernel
theorem dX0_provesKey_17 : decode cX0_provesKey 17 = .ok (.iconst 0, 1) := by decide +kernel
theorem dX0_provesKey_18 : decode cX0_provesKey 18 = .ok (.istore 5, 2) := by decide +kernel
theorem dX0_provesKey_20 : decode cX0_provesKey 20 = .ok (.iload 5, 2) := by decide +kernel
theorem dX0_provesKey_22 : decode cX0_provesKey 22 = .ok (.bipush 6, 2) := by decide +kernel
theorem dX0_provesKey_24 : decode cX0_provesKey 24 = .ok (.if_icmp .ge 58, 3) := by decide +kernel
theorem dX0_provesKey_27 : decode cX0_provesKey 27 = .ok (.aload_n 0, 1) := by decide +kernel
theorem dX0_provesKey_28 : decode cX0_provesKey 28 = .ok (.iload 5, 2) := by decide +kernel
theorem dX0_provesKey_30 : decode cX0_provesKey 30 = .ok (.invokevirtual 50, 3) := by decide +kernel
theorem dX0_provesKey_33 : decode cX0_provesKey 33 = .ok (.istore 6, 2) := by decide +kernel
theorem dX0_provesKey_35 : decode cX0_provesKey 35 = .ok (.iload_n 1, 1) := by decide +kernel
theorem dX0_provesKey_36 : decode cX0_provesKey 36 = .ok (.iload 5, 2) := by decide +kernel
theorem dX0_provesKey_38 : decode cX0_provesKey 38 = .ok (.ishr, 1) := by decide +kernel
theorem dX0_provesKey_39 : decode cX0_provesKey 39 = .ok (.iconst 1, 1) := by decide +kernel
theorem dX0_provesKey_40 : decode cX0_provesKey 40 = .ok (.iand, 1) := by decide +kernel
theorem dX0_provesKey_41 : decode cX0_provesKey 41 = .ok (.iconst 1, 1) := by decide +kernel
theorem dX0_provesKey_42 : decode cX0_provesKey 42 = .ok (.if_icmp .ne 7, 3) := by decide +kernel
theorem dX0_provesKey_45 : decode cX0_provesKey 45 = .ok (.iconst 1, 1) := by decide +kernel
theorem dX0_provesKey_46 : decode cX0_provesKey 46 = .ok (.goto 4, 3) := by decide +kernel
theorem dX0_provesKey_49 : decode cX0_provesKey 49 = .ok (.iconst 0, 1) := by decide +kernel
theorem dX0_provesKey_50 : decode cX0_provesKey 50 = .ok (.istore 7, 2) := by decide +kernel
theorem dX0_provesKey_52 : decode cX0_provesKey 52 = .ok (.iload 7, 2) := by decide +kernel
theorem dX0_provesKey_54 : decode cX0_provesKey 54 = .ok (.ifCond .eq 13, 3) := by decide +kernel
theorem dX0_provesKey_57 : decode cX0_provesKey 57 = .ok (.iload 6, 2) := by decide +kernel
theorem dX0_provesKey_59 : decode cX0_provesKey 59 = .ok (.iload 4, 2) := by decide +kernel
theorem dX0_provesKey_61 : decode cX0_provesKey 61 = .ok (.invokestatic 71, 3) := by decide +kernel
theorem dX0_provesKey_64 : decode cX0_provesKey 64 = .ok (.goto 10, 3) := by decide +kernel
theorem dX0_provesKey_67 : decode cX0_provesKey 67 = .ok (.iload 4, 2) := by decide +kernel
theorem dX0_provesKey_69 : decode cX0_provesKey 69 = .ok (.iload 6, 2) := by decide +kernel
theorem dX0_provesKey_71 : decode cX0_provesKey 71 = .ok (.invokestatic 71, 3) := by decide +kernel
theorem dX0_provesKey_74 : decode cX0_provesKey 74 = .ok (.istore 4, 2) := by decide +kernel
theorem dX0_provesKey_76 : decode cX0_provesKey 76 = .ok (.iinc 5 1, 3) := by decide +kernel
theorem dX0_provesKey_79 : decode cX0_provesKey 79 = .ok (.goto (-59), 3) := by decide +kernel
theorem dX0_provesKey_82 : decode cX0_provesKey 82 = .ok (.iload 4, 2) := by decide +kernel
theorem dX0_provesKey_84 : decode cX0_provesKey 84 = .ok (.iload_n 3, 1) := by decide +kernel
theorem dX0_provesKey_85 : decode cX0_provesKey 85 = .ok (.if_icmp .ne 7, 3) := by decide +kernel
theorem dX0_provesKey_88 : decode cX0_provesKey 88 = .ok (.iconst 1, 1) := by decide +kernel
theorem dX0_provesKey_89 : decode cX0_provesKey 89 = .ok (.goto 4, 3) := by decide +kernel
theorem dX0_provesKey_92 : decode cX0_provesKey 92 = .ok (.iconst 0, 1) := by decide +kernel
theorem dX0_provesKey_93 : decode cX0_provesKey 93 = .ok (.ireturn, 1) := by decide +kernel
theorem dX1_init_0 : decode cX1_init 0 = .ok (.aload_n 0, 1) := by decide +kernel
theorem dX1_init_1 : decode cX1_init 1 = .ok (.invokespecial 3, 3) := by decide +kernel
theorem dX1_init_4 : decode cX1_init 4 = .ok (.aload_n 0, 1) := by decide +kernel
theorem dX1_init_5 : decode cX1_init 5 = .ok (.bipush 64, 2) := by decide +kernel
theorem dX1_init_7 : decode cX1_init 7 = .ok (.newarray .int, 2) := by decide +kernel
theorem dX1_init_9 : decode cX1_init 9 = .ok (.putfield 9, 3) := by decide +kernel
theorem dX1_init_12 : decode cX1_init 12 = .ok (.aload_n 0, 1) := by decide +kernel
theorem dX1_init_13 : decode cX1_init 13 = .ok (.sipush 128, 3) := by decide +kernel
theorem dX1_init_16 : decode cX1_init 16 = .ok (.newarray .int, 2) := by decide +kernel
theorem dX1_init_18 : decode cX1_init 18 = .ok (.putfield 15, 3) := by decide +kernel
theorem dX1_init_21 : decode cX1_init 21 = .ok (.iconst 0, 1) := by decide +kernel
theorem dX1_init_22 : decode cX1_init 22 = .ok (.istore_n 1, 1) := by decide +kernel
theorem dX1_init_23 : decode cX1_init 23 = .ok (.iload_n 1, 1) := by decide +kernel
theorem dX1_init_24 : decode cX1_init 24 = .ok (.aload_n 0, 1) := by decide +kernel
theorem dX1_init_25 : decode cX1_init 25 = .ok (.getfield 9, 3) := by decide +kernel
theorem dX1_init_28 : decode cX1_init 28 = .ok (.arraylength, 1) := by decide +kernel
theorem dX1_init_29 : decode cX1_init 29 = .ok (.if_icmp .ge 16, 3) := by decide +kernel
theorem dX1_init_32 : decode cX1_init 32 = .ok (.aload_n 0, 1) := by decide +kernel
theorem dX1_init_33 : decode cX1_init 33 = .ok (.getfield 9, 3) := by decide +kernel
theorem dX1_init_36 : decode cX1_init 36 = .ok (.iload_n 1, 1) := by decide +kernel
theorem dX1_init_37 : decode cX1_init 37 = .ok (.iconst (-1), 1) := by decide +kernel
theorem dX1_init_38 : decode cX1_init 38 = .ok (.iastore, 1) := by decide +kernel
theorem dX1_init_39 : decode cX1_init 39 = .ok (.iinc 1 1, 3) := by decide +kernel
theorem dX1_init_42 : decode cX1_init 42 = .ok (.goto (-19), 3) := by decide +kernel
theorem dX1_init_45 : decode cX1_init 45 = .ok (.return_, 1) := by decide +kernel
theorem dX1_valueAt_0 : decode cX1_valueAt 0 = .ok (.iload_n 1, 1) := by decide +kernel
theorem dX1_valueAt_1 : decode cX1_valueAt 1 = .ok (.ifCond .lt 21, 3) := by decide +kernel
theorem dX1_valueAt_4 : decode cX1_valueAt 4 = .ok (.iload_n 1, 1) := by decide +kernel
theorem dX1_valueAt_5 : decode cX1_valueAt 5 = .ok (.aload_n 0, 1) := by decide +kernel
theorem dX1_valueAt_6 : decode cX1_valueAt 6 = .ok (.getfield 9, 3) := by decide +kernel
theorem dX1_valueAt_9 : decode cX1_valueAt 9 = .ok (.arraylength, 1) := by decide +kernel
theorem dX1_valueAt_10 : decode cX1_valueAt 10 = .ok (.if_icmp .ge 12, 3) := by decide +kernel
theorem dX1_valueAt_13 : decode cX1_valueAt 13 = .ok (.aload_n 0, 1) := by decide +kernel
theorem dX1_valueAt_14 : decode cX1_valueAt 14 = .ok (.getfield 9, 3) := by decide +kernel
theorem dX1_valueAt_17 : decode cX1_valueAt 17 = .ok (.iload_n 1, 1) := by decide +kernel
theorem dX1_valueAt_18 : decode cX1_valueAt 18 = .ok (.iaload, 1) := by decide +kernel
theorem dX1_valueAt_19 : decode cX1_valueAt 19 = .ok (.goto 4, 3) := by decide +kernel
theorem dX1_valueAt_22 : decode cX1_valueAt 22 = .ok (.iconst (-1), 1) := by decide +kernel
theorem dX1_valueAt_23 : decode cX1_valueAt 23 = .ok (.ireturn, 1) := by decide +kernel
theorem dX1_replace_0 : decode cX1_replace 0 = .ok (.iload_n 1, 1) := by decide +kernel
theorem dX1_replace_1 : decode cX1_replace 1 = .ok (.ifCond .lt 9, 3) := by decide +kernel
theorem dX1_replace_4 : decode cX1_replace 4 = .ok (.iload_n 1, 1) := by decide +kernel
theorem dX1_replace_5 : decode cX1_replace 5 = .ok (.bipush 64, 2) := by decide +kernel
theorem dX1_replace_7 : decode cX1_replace 7 = .ok (.if_icmp .lt 5, 3) := by decide +kernel
theorem dX1_replace_10 : decode cX1_replace 10 = .ok (.iconst (-1), 1) := by decide +kernel
theorem dX1_replace_11 : decode cX1_replace 11 = .ok (.ireturn, 1) := by decide +kernel
theorem dX1_replace_12 : decode cX1_replace 12 = .ok (.aload_n 0, 1) := by decide +kernel
theorem dX1_replace_13 : decode cX1_replace 13 = .ok (.getfield 9, 3) := by decide +kernel
theorem dX1_replace_16 : decode cX1_replace 16 = .ok (.iload_n 1, 1) := by decide +kernel
theorem dX1_replace_17 : decode cX1_replace 17 = .ok (.iaload, 1) := by decide +kernel
theorem dX1_replace_18 : decode cX1_replace 18 = .ok (.istore_n 3, 1) := by decide +kernel
theorem dX1_replace_19 : decode cX1_replace 19 = .ok (.aload_n 0, 1) := by decide +kernel
theorem dX1_replace_20 : decode cX1_replace 20 = .ok (.getfield 9, 3) := by decide +kernel
theorem dX1_replace_23 : decode cX1_replace 23 = .ok (.iload_n 1, 1) := by decide +kernel
theorem dX1_replace_24 : decode cX1_replace 24 = .ok (.iload_n 2, 1) := by decide +kernel
theorem dX1_replace_25 : decode cX1_replace 25 = .ok (.iastore, 1) := by decide +kernel
theorem dX1_replace_26 : decode cX1_replace 26 = .ok (.bipush 64, 2) := by decide +kernel
theorem dX1_replace_28 : decode cX1_replace 28 = .ok (.iload_n 1, 1) := by decide +kernel
theorem dX1_replace_29 : decode cX1_replace 29 = .ok (.iadd, 1) := by decide +kernel
theorem dX1_replace_30 : decode cX1_replace 30 = .ok (.istore 4, 2) := by decide +kernel
theorem dX1_replace_32 : decode cX1_replace 32 = .ok (.aload_n 0, 1) := by decide +kernel
theorem dX1_replace_33 : decode cX1_replace 33 = .ok (.getfield 15, 3) := by decide +kernel
theorem dX1_replace_36 : decode cX1_replace 36 = .ok (.iload 4, 2) := by decide +kernel
theorem dX1_replace_38 : decode cX1_replace 38 = .ok (.iload_n 2, 1) := by decide +kernel
theorem dX1_replace_39 : decode cX1_replace 39 = .ok (.invokestatic 18, 3) := by decide +kernel
theorem dX1_replace_42 : decode cX1_replace 42 = .ok (.iastore, 1) := by decide +kernel
theorem dX1_replace_43 : decode cX1_replace 43 = .ok (.iconst 0, 1) := by decide +kernel
theorem dX1_replace_44 : decode cX1_replace 44 = .ok (.istore 5, 2) := by decide +kernel
theorem dX1_replace_46 : decode cX1_replace 46 = .ok (.iload 5, 2) := by decide +kernel
theorem dX1_replace_48 : decode cX1_replace 48 = .ok (.bipush 6, 2) := by decide +kernel
theorem dX1_replace_50 : decode cX1_replace 50 = .ok (.if_icmp .ge 45, 3) := by decide +kernel
theorem dX1_replace_53 : decode cX1_replace 53 = .ok (.iload 4, 2) := by decide +kernel
theorem dX1_replace_55 : decode cX1_replace 55 = .ok (.iconst 1, 1) := by decide +kernel
theorem dX1_replace_56 : decode cX1_replace 56 = .ok (.ishr, 1) := by decide +kernel
theorem dX1_replace_57 : decode cX1_replace 57 = .ok (.istore 4, 2) := by decide +kernel
theorem dX1_replace_59 : decode cX1_replace 59 = .ok (.aload_n 0, 1) := by decide +kernel
theorem dX1_replace_60 : decode cX1_replace 60 = .ok (.getfield 15, 3) := by decide +kernel
theorem dX1_replace_63 : decode cX1_replace 63 = .ok (.iload 4, 2) := by decide +kernel
theorem dX1_replace_65 : decode cX1_replace 65 = .ok (.aload_n 0, 1) := by decide +kernel
theorem dX1_replace_66 : decode cX1_replace 66 = .ok (.getfield 15, 3) := by decide +kernel
theorem dX1_replace_69 : decode cX1_replace 69 = .ok (.iconst 2, 1) := by decide +kernel
theorem dX1_replace_70 : decode cX1_replace 70 = .ok (.iload 4, 2) := by decide +kernel
theorem dX1_replace_72 : decode cX1_replace 72 = .ok (.imul, 1) := by decide +kernel
theorem dX1_replace_73 : decode cX1_replace 73 = .ok (.iaload, 1) := by decide +kernel
theorem dX1_replace_74 : decode cX1_replace 74 = .ok (.aload_n 0, 1) := by decide +kernel
theorem dX1_replace_75 : decode cX1_replace 75 = .ok (.getfield 15, 3) := by decide +kernel
theorem dX1_replace_78 : decode cX1_replace 78 = .ok (.iconst 2, 1) := by decide +kernel
theorem dX1_replace_79 : decode cX1_replace 79 = .ok (.iload 4, 2) := by decide +kernel
theorem dX1_replace_81 : decode cX1_replace 81 = .ok (.imul, 1) := by decide +kernel
theorem dX1_replace_82 : decode cX1_replace 82 = .ok (.iconst 1, 1) := by decide +kernel
theorem dX1_replace_83 : decode cX1_replace 83 = .ok (.iadd, 1) := by decide +kernel
theorem dX1_replace_84 : decode cX1_replace 84 = .ok (.iaload, 1) := by decide +kernel
theorem dX1_replace_85 : decode cX1_replace 85 = .ok (.invokestatic 22, 3) := by decide +kernel
theorem dX1_replace_88 : decode cX1_replace 88 = .ok (.iastore, 1) := by decide +kernel
theorem dX1_replace_89 : decode cX1_replace 89 = .ok (.iinc 5 1, 3) := by decide +kernel
theorem dX1_replace_92 : decode cX1_replace 92 = .ok (.goto (-46), 3) := by decide +kernel
theorem dX1_replace_95 : decode cX1_replace 95 = .ok (.iload_n 3, 1) := by decide +kernel
theorem dX1_replace_96 : decode cX1_replace 96 = .ok (.ireturn, 1) := by decide +kernel
theorem dX1_sumBeside_0 : decode cX1_sumBeside 0 = .ok (.iload_n 1, 1) := by decide +kernel
theorem dX1_sumBeside_1 : decode cX1_sumBeside 1 = .ok (.ifCond .lt 19, 3) := by decide +kernel
theorem dX1_sumBeside_4 : decode cX1_sumBeside 4 = .ok (.iload_n 1, 1) := by decide +kernel
theorem dX1_sumBeside_5 : decode cX1_sumBeside 5 = .ok (.bipush 64, 2) := by decide +kernel
theorem dX1_sumBeside_7 : decode cX1_sumBeside 7 = .ok (.if_icmp .ge 13, 3) := by decide +kernel
theorem dX1_sumBeside_10 : decode cX1_sumBeside 10 = .ok (.iload_n 2, 1) := by decide +kernel
theorem dX1_sumBeside_11 : decode cX1_sumBeside 11 = .ok (.ifCond .lt 9, 3) := by decide +kernel
theorem dX1_sumBeside_14 : decode cX1_sumBeside 14 = .ok (.iload_n 2, 1) := by decide +kernel
theorem dX1_sumBeside_15 : decode cX1_sumBeside 15 = .ok (.bipush 6, 2) := by decide +kernel
theorem dX1_sumBeside_17 : decode cX1_sumBeside 17 = .ok (.if_icmp .lt 5, 3) := by decide +kernel
theorem dX1_sumBeside_20 : decode cX1_sumBeside 20 = .ok (.iconst 0, 1) := by decide +kernel
theorem dX1_sumBeside_21 : decode cX1_sumBeside 21 = .ok (.ireturn, 1) := by decide +kernel
theorem dX1_sumBeside_22 : decode cX1_sumBeside 22 = .ok (.aload_n 0, 1) := by decide +kernel
theorem dX1_sumBeside_23 : decode cX1_sumBeside 23 = .ok (.getfield 15, 3) := by decide +kernel
theorem dX1_sumBeside_26 : decode cX1_sumBeside 26 = .ok (.bipush 64, 2) := by decide +kernel
theorem dX1_sumBeside_28 : decode cX1_sumBeside 28 = .ok (.iload_n 1, 1) := by decide +kernel
theorem dX1_sumBeside_29 : decode cX1_sumBeside 29 = .ok (.iadd, 1) := by decide +kernel
theorem dX1_sumBeside_30 : decode cX1_sumBeside 30 = .ok (.iload_n 2, 1) := by decide +kernel
theorem dX1_sumBeside_31 : decode cX1_sumBeside 31 = .ok (.ishr, 1) := by decide +kernel
theorem dX1_sumBeside_32 : decode cX1_sumBeside 32 = .ok (.iconst 1, 1) := by decide +kernel
theorem dX1_sumBeside_33 : decode cX1_sumBeside 33 = .ok (.ixor, 1) := by decide +kernel
theorem dX1_sumBeside_34 : decode cX1_sumBeside 34 = .ok (.iaload, 1) := by decide +kernel
theorem dX1_sumBeside_35 : decode cX1_sumBeside 35 = .ok (.ireturn, 1) := by decide +kernel
theorem dX1_rootSum_0 : decode cX1_rootSum 0 = .ok (.aload_n 0, 1) := by decide +kernel
theorem dX1_rootSum_1 : decode cX1_rootSum 1 = .ok (.getfield 15, 3) := by decide +kernel
theorem dX1_rootSum_4 : decode cX1_rootSum 4 = .ok (.iconst 1, 1) := by decide +kernel
theorem dX1_rootSum_5 : decode cX1_rootSum 5 = .ok (.iaload, 1) := by decide +kernel
theorem dX1_rootSum_6 : decode cX1_rootSum 6 = .ok (.ireturn, 1) := by decide +kernel
theorem dX2_init_0 : decode cX2_init 0 = .ok (.aload_n 0, 1) := by decide +kernel
theorem dX2_init_1 : decode cX2_init 1 = .ok (.invokespecial 3, 3) := by decide +kernel
theorem dX2_init_4 : decode cX2_init 4 = .ok (.aload_n 0, 1) := by decide +kernel
theorem dX2_init_5 : decode cX2_init 5 = .ok (.bipush 100, 2) := by decide +kernel
theorem dX2_init_7 : decode cX2_init 7 = .ok (.newarray .int, 2) := by decide +kernel
theorem dX2_init_9 : decode cX2_init 9 = .ok (.putfield 9, 3) := by decide +kernel
theorem dX2_init_12 : decode cX2_init 12 = .ok (.aload_n 0, 1) := by decide +kernel
theorem dX2_init_13 : decode cX2_init 13 = .ok (.sipush 256, 3) := by decide +kernel
theorem dX2_init_16 : decode cX2_init 16 = .ok (.newarray .int, 2) := by decide +kernel
theorem dX2_init_18 : decode cX2_init 18 = .ok (.putfield 15, 3) := by decide +kernel
theorem dX2_init_21 : decode cX2_init 21 = .ok (.return_, 1) := by decide +kernel
theorem dX2_add_0 : decode cX2_add 0 = .ok (.aload_n 0, 1) := by decide +kernel
theorem dX2_add_1 : decode cX2_add 1 = .ok (.getfield 18, 3) := by decide +kernel
theorem dX2_add_4 : decode cX2_add 4 = .ok (.ifCond .lt 15, 3) := by decide +kernel
theorem dX2_add_7 : decode cX2_add 7 = .ok (.aload_n 0, 1) := by decide +kernel
theorem dX2_add_8 : decode cX2_add 8 = .ok (.getfield 18, 3) := by decide +kernel
theorem dX2_add_11 : decode cX2_add 11 = .ok (.aload_n 0, 1) := by decide +kernel
theorem dX2_add_12 : decode cX2_add 12 = .ok (.getfield 9, 3) := by decide +kernel
theorem dX2_add_15 : decode cX2_add 15 = .ok (.arraylength, 1) := by decide +kernel
theorem dX2_add_16 : decode cX2_add 16 = .ok (.if_icmp .lt 4, 3) := by decide +kernel
theorem dX2_add_19 : decode cX2_add 19 = .ok (.return_, 1) := by decide +kernel
theorem dX2_add_20 : decode cX2_add 20 = .ok (.sipush 128, 3) := by decide +kernel
theorem dX2_add_23 : decode cX2_add 23 = .ok (.aload_n 0, 1) := by decide +kernel
theorem dX2_add_24 : decode cX2_add 24 = .ok (.getfield 18, 3) := by decide +kernel
theorem dX2_add_27 : decode cX2_add 27 = .ok (.iadd, 1) := by decide +kernel
theorem dX2_add_28 : decode cX2_add 28 = .ok (.istore_n 2, 1) := by decide +kernel
theorem dX2_add_29 : decode cX2_add 29 = .ok (.aload_n 0, 1) := by decide +kernel
theorem dX2_add_30 : decode cX2_add 30 = .ok (.getfield 9, 3) := by decide +kernel
theorem dX2_add_33 : decode cX2_add 33 = .ok (.aload_n 0, 1) := by decide +kernel
theorem dX2_add_34 : decode cX2_add 34 = .ok (.getfield 18, 3) := by decide +kernel
theorem dX2_add_37 : decode cX2_add 37 = .ok (.iload_n 1, 1) := by decide +kernel
theorem dX2_add_38 : decode cX2_add 38 = .ok (.iastore, 1) := by decide +kernel
theorem dX2_add_39 : decode cX2_add 39 = .ok (.aload_n 0, 1) := by decide +kernel
theorem dX2_add_40 : decode cX2_add 40 = .ok (.getfield 15, 3) := by decide +kernel
theorem dX2_add_43 : decode cX2_add 43 = .ok (.iload_n 2, 1) := by decide +kernel
theorem dX2_add_44 : decode cX2_add 44 = .ok (.iload_n 1, 1) := by decide +kernel
theorem dX2_add_45 : decode cX2_add 45 = .ok (.invokestatic 22, 3) := by decide +kernel
theorem dX2_add_48 : decode cX2_add 48 = .ok (.iastore, 1) := by decide +kernel
theorem dX2_add_49 : decode cX2_add 49 = .ok (.aload_n 0, 1) := by decide +kernel
theorem dX2_add_50 : decode cX2_add 50 = .ok (.dup, 1) := by decide +kernel
theorem dX2_add_51 : decode cX2_add 51 = .ok (.getfield 18, 3) := by decide +kernel
theorem dX2_add_54 : decode cX2_add 54 = .ok (.iconst 1, 1) := by decide +kernel
theorem dX2_add_55 : decode cX2_add 55 = .ok (.iadd, 1) := by decide +kernel
theorem dX2_add_56 : decode cX2_add 56 = .ok (.putfield 18, 3) := by decide +kernel
theorem dX2_add_59 : decode cX2_add 59 = .ok (.iconst 0, 1) := by decide +kernel
theorem dX2_add_60 : decode cX2_add 60 = .ok (.istore_n 3, 1) := by decide +kernel
theorem dX2_add_61 : decode cX2_add 61 = .ok (.iload_n 3, 1) := by decide +kernel
theorem dX2_add_62 : decode cX2_add 62 = .ok (.bipush 7, 2) := by decide +kernel
theorem dX2_add_64 : decode cX2_add 64 = .ok (.if_icmp .ge 45, 3) := by decide +kernel
theorem dX2_add_67 : decode cX2_add 67 = .ok (.iload_n 2, 1) := by decide +kernel
theorem dX2_add_68 : decode cX2_add 68 = .ok (.iconst 1, 1) := by decide +kernel
theorem dX2_add_69 : decode cX2_add 69 = .ok (.iand, 1) := by decide +kernel
theorem dX2_add_70 : decode cX2_add 70 = .ok (.iconst 1, 1) := by decide +kernel
theorem dX2_add_71 : decode cX2_add 71 = .ok (.if_icmp .ne 38, 3) := by decide +kernel
theorem dX2_add_74 : decode cX2_add 74 = .ok (.aload_n 0, 1) := by decide +kernel
theorem dX2_add_75 : decode cX2_add 75 = .ok (.getfield 15, 3) := by decide +kernel
theorem dX2_add_78 : decode cX2_add 78 = .ok (.iload_n 2, 1) := by decide +kernel
theorem dX2_add_79 : decode cX2_add 79 = .ok (.iconst 1, 1) := by decide +kernel
theorem dX2_add_80 : decode cX2_add 80 = .ok (.ishr, 1) := by decide +kernel
theorem dX2_add_81 : decode cX2_add 81 = .ok (.aload_n 0, 1) := by decide +kernel
theorem dX2_add_82 : decode cX2_add 82 = .ok (.getfield 15, 3) := by decide +kernel
theorem dX2_add_85 : decode cX2_add 85 = .ok (.iload_n 2, 1) := by decide +kernel
theorem dX2_add_86 : decode cX2_add 86 = .ok (.iconst 1, 1) := by decide +kernel
theorem dX2_add_87 : decode cX2_add 87 = .ok (.isub, 1) := by decide +kernel
theorem dX2_add_88 : decode cX2_add 88 = .ok (.iaload, 1) := by decide +kernel
theorem dX2_add_89 : decode cX2_add 89 = .ok (.aload_n 0, 1) := by decide +kernel
theorem dX2_add_90 : decode cX2_add 90 = .ok (.getfield 15, 3) := by decide +kernel
theorem dX2_add_93 : decode cX2_add 93 = .ok (.iload_n 2, 1) := by decide +kernel
theorem dX2_add_94 : decode cX2_add 94 = .ok (.iaload, 1) := by decide +kernel
theorem dX2_add_95 : decode cX2_add 95 = .ok (.invokestatic 26, 3) := by decide +kernel
theorem dX2_add_98 : decode cX2_add 98 = .ok (.iastore, 1) := by decide +kernel
theorem dX2_add_99 : decode cX2_add 99 = .ok (.iload_n 2, 1) := by decide +kernel
theorem dX2_add_100 : decode cX2_add 100 = .ok (.iconst 1, 1) := by decide +kernel
theorem dX2_add_101 : decode cX2_add 101 = .ok (.ishr, 1) := by decide +kernel
theorem dX2_add_102 : decode cX2_add 102 = .ok (.istore_n 2, 1) := by decide +kernel
theorem dX2_add_103 : decode cX2_add 103 = .ok (.iinc 3 1, 3) := by decide +kernel
theorem dX2_add_106 : decode cX2_add 106 = .ok (.goto (-45), 3) := by decide +kernel
theorem dX2_add_109 : decode cX2_add 109 = .ok (.return_, 1) := by decide +kernel
theorem dX2_valueAt_0 : decode cX2_valueAt 0 = .ok (.iload_n 1, 1) := by decide +kernel
theorem dX2_valueAt_1 : decode cX2_valueAt 1 = .ok (.ifCond .lt 29, 3) := by decide +kernel
theorem dX2_valueAt_4 : decode cX2_valueAt 4 = .ok (.iload_n 1, 1) := by decide +kernel
theorem dX2_valueAt_5 : decode cX2_valueAt 5 = .ok (.aload_n 0, 1) := by decide +kernel
theorem dX2_valueAt_6 : decode cX2_valueAt 6 = .ok (.getfield 18, 3) := by decide +kernel
theorem dX2_valueAt_9 : decode cX2_valueAt 9 = .ok (.if_icmp .ge 21, 3) := by decide +kernel
theorem dX2_valueAt_12 : decode cX2_valueAt 12 = .ok (.iload_n 1, 1) := by decide +kernel
theorem dX2_valueAt_13 : decode cX2_valueAt 13 = .ok (.aload_n 0, 1) := by decide +kernel
theorem dX2_valueAt_14 : decode cX2_valueAt 14 = .ok (.getfield 9, 3) := by decide +kernel
theorem dX2_valueAt_17 : decode cX2_valueAt 17 = .ok (.arraylength, 1) := by decide +kernel
theorem dX2_valueAt_18 : decode cX2_valueAt 18 = .ok (.if_icmp .ge 12, 3) := by decide +kernel
theorem dX2_valueAt_21 : decode cX2_valueAt 21 = .ok (.aload_n 0, 1) := by decide +kernel
theorem dX2_valueAt_22 : decode cX2_valueAt 22 = .ok (.getfield 9, 3) := by decide +kernel
theorem dX2_valueAt_25 : decode cX2_valueAt 25 = .ok (.iload_n 1, 1) := by decide +kernel
theorem dX2_valueAt_26 : decode cX2_valueAt 26 = .ok (.iaload, 1) := by decide +kernel
theorem dX2_valueAt_27 : decode cX2_valueAt 27 = .ok (.goto 4, 3) := by decide +kernel
theorem dX2_valueAt_30 : decode cX2_valueAt 30 = .ok (.iconst (-1), 1) := by decide +kernel
theorem dX2_valueAt_31 : decode cX2_valueAt 31 = .ok (.ireturn, 1) := by decide +kernel
theorem dX2_rootAt_0 : decode cX2_rootAt 0 = .ok (.aload_n 0, 1) := by decide +kernel
theorem dX2_rootAt_1 : decode cX2_rootAt 1 = .ok (.iconst 0, 1) := by decide +kernel
theorem dX2_rootAt_2 : decode cX2_rootAt 2 = .ok (.iload_n 1, 1) := by decide +kernel
theorem dX2_rootAt_3 : decode cX2_rootAt 3 = .ok (.invokevirtual 30, 3) := by decide +kernel
theorem dX2_rootAt_6 : decode cX2_rootAt 6 = .ok (.ireturn, 1) := by decide +kernel
theorem dX2_rootOfRow_0 : decode cX2_rootOfRow 0 = .ok (.iload_n 1, 1) := by decide +kernel
theorem dX2_rootOfRow_1 : decode cX2_rootOfRow 1 = .ok (.ifCond .lt 25, 3) := by decide +kernel
theorem dX2_rootOfRow_4 : decode cX2_rootOfRow 4 = .ok (.iload_n 2, 1) := by decide +kernel
theorem dX2_rootOfRow_5 : decode cX2_rootOfRow 5 = .ok (.ifCond .lt 21, 3) := by decide +kernel
theorem dX2_rootOfRow_8 : decode cX2_rootOfRow 8 = .ok (.iload_n 1, 1) := by decide +kernel
theorem dX2_rootOfRow_9 : decode cX2_rootOfRow 9 = .ok (.aload_n 0, 1) := by decide +kernel
theorem dX2_rootOfRow_10 : decode cX2_rootOfRow 10 = .ok (.getfield 18, 3) := by decide +kernel
theorem dX2_rootOfRow_13 : decode cX2_rootOfRow 13 = .ok (.if_icmp .gt 13, 3) := by decide +kernel
theorem dX2_rootOfRow_16 : decode cX2_rootOfRow 16 = .ok (.iload_n 2, 1) := by decide +kernel
theorem dX2_rootOfRow_17 : decode cX2_rootOfRow 17 = .ok (.aload_n 0, 1) := by decide +kernel
theorem dX2_rootOfRow_18 : decode cX2_rootOfRow 18 = .ok (.getfield 18, 3) := by decide +kernel
theorem dX2_rootOfRow_21 : decode cX2_rootOfRow 21 = .ok (.iload_n 1, 1) := by decide +kernel
theorem dX2_rootOfRow_22 : decode cX2_rootOfRow 22 = .ok (.isub, 1) := by decide +kernel
theorem dX2_rootOfRow_23 : decode cX2_rootOfRow 23 = .ok (.if_icmp .le 5, 3) := by decide +kernel
theorem dX2_rootOfRow_26 : decode cX2_rootOfRow 26 = .ok (.iconst 0, 1) := by decide +kernel
theorem dX2_rootOfRow_27 : decode cX2_rootOfRow 27 = .ok (.ireturn, 1) := by decide +kernel
theorem dX2_rootOfRow_28 : decode cX2_rootOfRow 28 = .ok (.iconst 0, 1) := by decide +kernel
theorem dX2_rootOfRow_29 : decode cX2_rootOfRow 29 = .ok (.istore_n 3, 1) := by decide +kernel
theorem dX2_rootOfRow_30 : decode cX2_rootOfRow 30 = .ok (.iload_n 1, 1) := by decide +kernel
theorem dX2_rootOfRow_31 : decode cX2_rootOfRow 31 = .ok (.iload_n 2, 1) := by decide +kernel
theorem dX2_rootOfRow_32 : decode cX2_rootOfRow 32 = .ok (.iadd, 1) := by decide +kernel
theorem dX2_rootOfRow_33 : decode cX2_rootOfRow 33 = .ok (.istore 4, 2) := by decide +kernel
theorem dX2_rootOfRow_35 : decode cX2_rootOfRow 35 = .ok (.iconst 0, 1) := by decide +kernel
theorem dX2_rootOfRow_36 : decode cX2_rootOfRow 36 = .ok (.istore 5, 2) := by decide +kernel
theorem dX2_rootOfRow_38 : decode cX2_rootOfRow 38 = .ok (.iload 5, 2) := by decide +kernel
theorem dX2_rootOfRow_40 : decode cX2_rootOfRow 40 = .ok (.bipush 7, 2) := by decide +kernel
theorem dX2_rootOfRow_42 : decode cX2_rootOfRow 42 = .ok (.if_icmp .ge 75, 3) := by decide +kernel
theorem dX2_rootOfRow_45 : decode cX2_rootOfRow 45 = .ok (.iload_n 2, 1) := by decide +kernel
theorem dX2_rootOfRow_46 : decode cX2_rootOfRow 46 = .ok (.iload 5, 2) := by decide +kernel
theorem dX2_rootOfRow_48 : decode cX2_rootOfRow 48 = .ok (.ishr, 1) := by decide +kernel
theorem dX2_rootOfRow_49 : decode cX2_rootOfRow 49 = .ok (.iconst 1, 1) := by decide +kernel
theorem dX2_rootOfRow_50 : decode cX2_rootOfRow 50 = .ok (.iand, 1) := by decide +kernel
theorem dX2_rootOfRow_51 : decode cX2_rootOfRow 51 = .ok (.iconst 1, 1) := by decide +kernel
theorem dX2_rootOfRow_52 : decode cX2_rootOfRow 52 = .ok (.if_icmp .ne 59, 3) := by decide +kernel
theorem dX2_rootOfRow_55 : decode cX2_rootOfRow 55 = .ok (.iload 4, 2) := by decide +kernel
theorem dX2_rootOfRow_57 : decode cX2_rootOfRow 57 = .ok (.iload_n 1, 1) := by decide +kernel
theorem dX2_rootOfRow_58 : decode cX2_rootOfRow 58 = .ok (.iload_n 2, 1) := by decide +kernel
theorem dX2_rootOfRow_59 : decode cX2_rootOfRow 59 = .ok (.iadd, 1) := by decide +kernel
theorem dX2_rootOfRow_60 : decode cX2_rootOfRow 60 = .ok (.if_icmp .ne 7, 3) := by decide +kernel
theorem dX2_rootOfRow_63 : decode cX2_rootOfRow 63 = .ok (.iconst 1, 1) := by decide +kernel
theorem dX2_rootOfRow_64 : decode cX2_rootOfRow 64 = .ok (.goto 4, 3) := by decide +kernel
theorem dX2_rootOfRow_67 : decode cX2_rootOfRow 67 = .ok (.iconst 0, 1) := by decide +kernel
theorem dX2_rootOfRow_68 : decode cX2_rootOfRow 68 = .ok (.istore 6, 2) := by decide +kernel
theorem dX2_rootOfRow_70 : decode cX2_rootOfRow 70 = .ok (.iload 4, 2) := by decide +kernel
theorem dX2_rootOfRow_72 : decode cX2_rootOfRow 72 = .ok (.iconst 1, 1) := by decide +kernel
theorem dX2_rootOfRow_73 : decode cX2_rootOfRow 73 = .ok (.iload 5, 2) := by decide +kernel
theorem dX2_rootOfRow_75 : decode cX2_rootOfRow 75 = .ok (.ishl, 1) := by decide +kernel
theorem dX2_rootOfRow_76 : decode cX2_rootOfRow 76 = .ok (.isub, 1) := by decide +kernel
theorem dX2_rootOfRow_77 : decode cX2_rootOfRow 77 = .ok (.istore 4, 2) := by decide +kernel
theorem dX2_rootOfRow_79 : decode cX2_rootOfRow 79 = .ok (.aload_n 0, 1) := by decide +kernel
theorem dX2_rootOfRow_80 : decode cX2_rootOfRow 80 = .ok (.sipush 128, 3) := by decide +kernel
theorem dX2_rootOfRow_83 : decode cX2_rootOfRow 83 = .ok (.iload 4, 2) := by decide +kernel
theorem dX2_rootOfRow_85 : decode cX2_rootOfRow 85 = .ok (.iadd, 1) := by decide +kernel
theorem dX2_rootOfRow_86 : decode cX2_rootOfRow 86 = .ok (.iload 5, 2) := by decide +kernel
theorem dX2_rootOfRow_88 : decode cX2_rootOfRow 88 = .ok (.ishr, 1) := by decide +kernel
theorem dX2_rootOfRow_89 : decode cX2_rootOfRow 89 = .ok (.invokevirtual 33, 3) := by decide +kernel
theorem dX2_rootOfRow_92 : decode cX2_rootOfRow 92 = .ok (.istore 7, 2) := by decide +kernel
theorem dX2_rootOfRow_94 : decode cX2_rootOfRow 94 = .ok (.iload 6, 2) := by decide +kernel
theorem dX2_rootOfRow_96 : decode cX2_rootOfRow 96 = .ok (.ifCond .eq 8, 3) := by decide +kernel
theorem dX2_rootOfRow_99 : decode cX2_rootOfRow 99 = .ok (.iload 7, 2) := by decide +kernel
theorem dX2_rootOfRow_101 : decode cX2_rootOfRow 101 = .ok (.goto 9, 3) := by decide +kernel
theorem dX2_rootOfRow_104 : decode cX2_rootOfRow 104 = .ok (.iload 7, 2) := by decide +kernel
theorem dX2_rootOfRow_106 : decode cX2_rootOfRow 106 = .ok (.iload_n 3, 1) := by decide +kernel
theorem dX2_rootOfRow_107 : decode cX2_rootOfRow 107 = .ok (.invokestatic 26, 3) := by decide +kernel
theorem dX2_rootOfRow_110 : decode cX2_rootOfRow 110 = .ok (.istore_n 3, 1) := by decide +kernel
theorem dX2_rootOfRow_111 : decode cX2_rootOfRow 111 = .ok (.iinc 5 1, 3) := by decide +kernel
theorem dX2_rootOfRow_114 : decode cX2_rootOfRow 114 = .ok (.goto (-76), 3) := by decide +kernel
theorem dX2_rootOfRow_117 : decode cX2_rootOfRow 117 = .ok (.iload_n 3, 1) := by decide +kernel
theorem dX2_rootOfRow_118 : decode cX2_rootOfRow 118 = .ok (.ireturn, 1) := by decide +kernel
theorem dX2_blockAt_0 : decode cX2_blockAt 0 = .ok (.iload_n 1, 1) := by decide +kernel
theorem dX2_blockAt_1 : decode cX2_blockAt 1 = .ok (.ifCond .lt 21, 3) := by decide +kernel
theorem dX2_blockAt_4 : decode cX2_blockAt 4 = .ok (.iload_n 1, 1) := by decide +kernel
theorem dX2_blockAt_5 : decode cX2_blockAt 5 = .ok (.aload_n 0, 1) := by decide +kernel
theorem dX2_blockAt_6 : decode cX2_blockAt 6 = .ok (.getfield 15, 3) := by decide +kernel
theorem dX2_blockAt_9 : decode cX2_blockAt 9 = .ok (.arraylength, 1) := by decide +kernel
theorem dX2_blockAt_10 : decode cX2_blockAt 10 = .ok (.if_icmp .ge 12, 3) := by decide +kernel
theorem dX2_blockAt_13 : decode cX2_blockAt 13 = .ok (.aload_n 0, 1) := by decide +kernel
theorem dX2_blockAt_14 : decode cX2_blockAt 14 = .ok (.getfield 15, 3) := by decide +kernel
theorem dX2_blockAt_17 : decode cX2_blockAt 17 = .ok (.iload_n 1, 1) := by decide +kernel
theorem dX2_blockAt_18 : decode cX2_blockAt 18 = .ok (.iaload, 1) := by decide +kernel
theorem dX2_blockAt_19 : decode cX2_blockAt 19 = .ok (.goto 4, 3) := by decide +kernel
theorem dX2_blockAt_22 : decode cX2_blockAt 22 = .ok (.iconst 0, 1) := by decide +kernel
theorem dX2_blockAt_23 : decode cX2_blockAt 23 = .ok (.ireturn, 1) := by decide +kernel
theorem dX2_rootFromValues_0 : decode cX2_rootFromValues 0 = .ok (.iload_n 1, 1) := by decide +kernel
theorem dX2_rootFromValues_1 : decode cX2_rootFromValues 1 = .ok (.iconst 1, 1) := by decide +kernel
theorem dX2_rootFromValues_2 : decode cX2_rootFromValues 2 = .ok (.if_icmp .lt 11, 3) := by decide +kernel
theorem dX2_rootFromValues_5 : decode cX2_rootFromValues 5 = .ok (.iload_n 1, 1) := by decide +kernel
theorem dX2_rootFromValues_6 : decode cX2_rootFromValues 6 = .ok (.aload_n 0, 1) := by decide +kernel
theorem dX2_rootFromValues_7 : decode cX2_rootFromValues 7 = .ok (.getfield 18, 3) := by decide +kernel
theorem dX2_rootFromValues_10 : decode cX2_rootFromValues 10 = .ok (.if_icmp .le 7, 3) := by decide +kernel
theorem dX2_rootFromValues_13 : decode cX2_rootFromValues 13 = .ok (.iconst 0, 1) := by decide +kernel
theorem dX2_rootFromValues_14 : decode cX2_rootFromValues 14 = .ok (.goto 13, 3) := by decide +kernel
theorem dX2_rootFromValues_17 : decode cX2_rootFromValues 17 = .ok (.aload_n 0, 1) := by decide +kernel
theorem dX2_rootFromValues_18 : decode cX2_rootFromValues 18 = .ok (.getfield 9, 3) := by decide +kernel
theorem dX2_rootFromValues_21 : decode cX2_rootFromValues 21 = .ok (.iconst 0, 1) := by decide +kernel
theorem dX2_rootFromValues_22 : decode cX2_rootFromValues 22 = .ok (.iload_n 1, 1) := by decide +kernel
theorem dX2_rootFromValues_23 : decode cX2_rootFromValues 23 = .ok (.iconst 0, 1) := by decide +kernel
theorem dX2_rootFromValues_24 : decode cX2_rootFromValues 24 = .ok (.invokestatic 36, 3) := by decide +kernel
theorem dX2_rootFromValues_27 : decode cX2_rootFromValues 27 = .ok (.ireturn, 1) := by decide +kernel
theorem dX2_rootAnewOf_0 : decode cX2_rootAnewOf 0 = .ok (.iload_n 3, 1) := by decide +kernel
theorem dX2_rootAnewOf_1 : decode cX2_rootAnewOf 1 = .ok (.bipush 7, 2) := by decide +kernel
theorem dX2_rootAnewOf_3 : decode cX2_rootAnewOf 3 = .ok (.if_icmp .gt 13, 3) := by decide +kernel
theorem dX2_rootAnewOf_6 : decode cX2_rootAnewOf 6 = .ok (.iload_n 1, 1) := by decide +kernel
theorem dX2_rootAnewOf_7 : decode cX2_rootAnewOf 7 = .ok (.ifCond .lt 9, 3) := by decide +kernel
theorem dX2_rootAnewOf_10 : decode cX2_rootAnewOf 10 = .ok (.iload_n 1, 1) := by decide +kernel
theorem dX2_rootAnewOf_11 : decode cX2_rootAnewOf 11 = .ok (.aload_n 0, 1) := by decide +kernel
theorem dX2_rootAnewOf_12 : decode cX2_rootAnewOf 12 = .ok (.arraylength, 1) := by decide +kernel
theorem dX2_rootAnewOf_13 : decode cX2_rootAnewOf 13 = .ok (.if_icmp .lt 5, 3) := by decide +kernel
theorem dX2_rootAnewOf_16 : decode cX2_rootAnewOf 16 = .ok (.iconst 0, 1) := by decide +kernel
theorem dX2_rootAnewOf_17 : decode cX2_rootAnewOf 17 = .ok (.ireturn, 1) := by decide +kernel
theorem dX2_rootAnewOf_18 : decode cX2_rootAnewOf 18 = .ok (.iload_n 2, 1) := by decide +kernel
theorem dX2_rootAnewOf_19 : decode cX2_rootAnewOf 19 = .ok (.iconst 1, 1) := by decide +kernel
theorem dX2_rootAnewOf_20 : decode cX2_rootAnewOf 20 = .ok (.if_icmp .gt 10, 3) := by decide +kernel
theorem dX2_rootAnewOf_23 : decode cX2_rootAnewOf 23 = .ok (.aload_n 0, 1) := by decide +kernel
theorem dX2_rootAnewOf_24 : decode cX2_rootAnewOf 24 = .ok (.iload_n 1, 1) := by decide +kernel
theorem dX2_rootAnewOf_25 : decode cX2_rootAnewOf 25 = .ok (.iaload, 1) := by decide +kernel
theorem dX2_rootAnewOf_26 : decode cX2_rootAnewOf 26 = .ok (.invokestatic 22, 3) := by decide +kernel
theorem dX2_rootAnewOf_29 : decode cX2_rootAnewOf 29 = .ok (.ireturn, 1) := by decide +kernel
theorem dX2_rootAnewOf_30 : decode cX2_rootAnewOf 30 = .ok (.iload_n 2, 1) := by decide +kernel
theorem dX2_rootAnewOf_31 : decode cX2_rootAnewOf 31 = .ok (.invokestatic 40, 3) := by decide +kernel
theorem dX2_rootAnewOf_34 : decode cX2_rootAnewOf 34 = .ok (.istore 4, 2) := by decide +kernel
theorem dX2_rootAnewOf_36 : decode cX2_rootAnewOf 36 = .ok (.aload_n 0, 1) := by decide +kernel
theorem dX2_rootAnewOf_37 : decode cX2_rootAnewOf 37 = .ok (.iload_n 1, 1) := by decide +kernel
theorem dX2_rootAnewOf_38 : decode cX2_rootAnewOf 38 = .ok (.iload 4, 2) := by decide +kernel
theorem dX2_rootAnewOf_40 : decode cX2_rootAnewOf 40 = .ok (.iload_n 3, 1) := by decide +kernel
theorem dX2_rootAnewOf_41 : decode cX2_rootAnewOf 41 = .ok (.iconst 1, 1) := by decide +kernel
theorem dX2_rootAnewOf_42 : decode cX2_rootAnewOf 42 = .ok (.iadd, 1) := by decide +kernel
theorem dX2_rootAnewOf_43 : decode cX2_rootAnewOf 43 = .ok (.invokestatic 36, 3) := by decide +kernel
theorem dX2_rootAnewOf_46 : decode cX2_rootAnewOf 46 = .ok (.aload_n 0, 1) := by decide +kernel
theorem dX2_rootAnewOf_47 : decode cX2_rootAnewOf 47 = .ok (.iload_n 1, 1) := by decide +kernel
theorem dX2_rootAnewOf_48 : decode cX2_rootAnewOf 48 = .ok (.iload 4, 2) := by decide +kernel
theorem dX2_rootAnewOf_50 : decode cX2_rootAnewOf 50 = .ok (.iadd, 1) := by decide +kernel
theorem dX2_rootAnewOf_51 : decode cX2_rootAnewOf 51 = .ok (.iload_n 2, 1) := by decide +kernel
theorem dX2_rootAnewOf_52 : decode cX2_rootAnewOf 52 = .ok (.iload 4, 2) := by decide +kernel
theorem dX2_rootAnewOf_54 : decode cX2_rootAnewOf 54 = .ok (.isub, 1) := by decide +kernel
theorem dX2_rootAnewOf_55 : decode cX2_rootAnewOf 55 = .ok (.iload_n 3, 1) := by decide +kernel
theorem dX2_rootAnewOf_56 : decode cX2_rootAnewOf 56 = .ok (.iconst 1, 1) := by decide +kernel
theorem dX2_rootAnewOf_57 : decode cX2_rootAnewOf 57 = .ok (.iadd, 1) := by decide +kernel
theorem dX2_rootAnewOf_58 : decode cX2_rootAnewOf 58 = .ok (.invokestatic 36, 3) := by decide +kernel
theorem dX2_rootAnewOf_61 : decode cX2_rootAnewOf 61 = .ok (.invokestatic 26, 3) := by decide +kernel
theorem dX2_rootAnewOf_64 : decode cX2_rootAnewOf 64 = .ok (.ireturn, 1) := by decide +kernel
theorem dX2_greatestPowerBelow_0 : decode cX2_greatestPowerBelow 0 = .ok (.iconst 1, 1) := by decide +kernel
theorem dX2_greatestPowerBelow_1 : decode cX2_greatestPowerBelow 1 = .ok (.istore_n 1, 1) := by decide +kernel
theorem dX2_greatestPowerBelow_2 : decode cX2_greatestPowerBelow 2 = .ok (.iconst 0, 1) := by decide +kernel
theorem dX2_greatestPowerBelow_3 : decode cX2_greatestPowerBelow 3 = .ok (.istore_n 2, 1) := by decide +kernel
theorem dX2_greatestPowerBelow_4 : decode cX2_greatestPowerBelow 4 = .ok (.iload_n 2, 1) := by decide +kernel
theorem dX2_greatestPowerBelow_5 : decode cX2_greatestPowerBelow 5 = .ok (.bipush 7, 2) := by decide +kernel
theorem dX2_greatestPowerBelow_7 : decode cX2_greatestPowerBelow 7 = .ok (.if_icmp .ge 20, 3) := by decide +kernel
theorem dX2_greatestPowerBelow_10 : decode cX2_greatestPowerBelow 10 = .ok (.iconst 2, 1) := by decide +kernel
theorem dX2_greatestPowerBelow_11 : decode cX2_greatestPowerBelow 11 = .ok (.iload_n 1, 1) := by decide +kernel
theorem dX2_greatestPowerBelow_12 : decode cX2_greatestPowerBelow 12 = .ok (.imul, 1) := by decide +kernel
theorem dX2_greatestPowerBelow_13 : decode cX2_greatestPowerBelow 13 = .ok (.iload_n 0, 1) := by decide +kernel
theorem dX2_greatestPowerBelow_14 : decode cX2_greatestPowerBelow 14 = .ok (.if_icmp .ge 13, 3) := by decide +kernel
theorem dX2_greatestPowerBelow_17 : decode cX2_greatestPowerBelow 17 = .ok (.iconst 2, 1) := by decide +kernel
theorem dX2_greatestPowerBelow_18 : decode cX2_greatestPowerBelow 18 = .ok (.iload_n 1, 1) := by decide +kernel
theorem dX2_greatestPowerBelow_19 : decode cX2_greatestPowerBelow 19 = .ok (.imul, 1) := by decide +kernel
theorem dX2_greatestPowerBelow_20 : decode cX2_greatestPowerBelow 20 = .ok (.istore_n 1, 1) := by decide +kernel
theorem dX2_greatestPowerBelow_21 : decode cX2_greatestPowerBelow 21 = .ok (.iinc 2 1, 3) := by decide +kernel
theorem dX2_greatestPowerBelow_24 : decode cX2_greatestPowerBelow 24 = .ok (.goto (-20), 3) := by decide +kernel
theorem dX2_greatestPowerBelow_27 : decode cX2_greatestPowerBelow 27 = .ok (.iload_n 1, 1) := by decide +kernel
theorem dX2_greatestPowerBelow_28 : decode cX2_greatestPowerBelow 28 = .ok (.ireturn, 1) := by decide +kernel
theorem dX3_init_0 : decode cX3_init 0 = .ok (.aload_n 0, 1) := by decide +kernel
theorem dX3_init_1 : decode cX3_init 1 = .ok (.invokespecial 3, 3) := by decide +kernel
theorem dX3_init_4 : decode cX3_init 4 = .ok (.aload_n 0, 1) := by decide +kernel
theorem dX3_init_5 : decode cX3_init 5 = .ok (.iconst (-1), 1) := by decide +kernel
theorem dX3_init_6 : decode cX3_init 6 = .ok (.putfield 9, 3) := by decide +kernel
theorem dX3_init_9 : decode cX3_init 9 = .ok (.aload_n 0, 1) := by decide +kernel
theorem dX3_init_10 : decode cX3_init 10 = .ok (.iconst (-1), 1) := by decide +kernel
theorem dX3_init_11 : decode cX3_init 11 = .ok (.putfield 15, 3) := by decide +kernel
theorem dX3_init_14 : decode cX3_init 14 = .ok (.aload_n 0, 1) := by decide +kernel
theorem dX3_init_15 : decode cX3_init 15 = .ok (.iconst (-1), 1) := by decide +kernel
theorem dX3_init_16 : decode cX3_init 16 = .ok (.putfield 18, 3) := by decide +kernel
theorem dX3_init_19 : decode cX3_init 19 = .ok (.return_, 1) := by decide +kernel
theorem dX3_look_0 : decode cX3_look 0 = .ok (.aload_n 0, 1) := by decide +kernel
theorem dX3_look_1 : decode cX3_look 1 = .ok (.getfield 21, 3) := by decide +kernel
theorem dX3_look_4 : decode cX3_look 4 = .ok (.ifnull 29, 3) := by decide +kernel
theorem dX3_look_7 : decode cX3_look 7 = .ok (.aload_n 1, 1) := by decide +kernel
theorem dX3_look_8 : decode cX3_look 8 = .ok (.getfield 25, 3) := by decide +kernel
theorem dX3_look_11 : decode cX3_look 11 = .ok (.aload_n 0, 1) := by decide +kernel
theorem dX3_look_12 : decode cX3_look 12 = .ok (.getfield 9, 3) := by decide +kernel
theorem dX3_look_15 : decode cX3_look 15 = .ok (.if_icmp .lt 22, 3) := by decide +kernel
theorem dX3_look_18 : decode cX3_look 18 = .ok (.aload_n 1, 1) := by decide +kernel
theorem dX3_look_19 : decode cX3_look 19 = .ok (.aload_n 0, 1) := by decide +kernel
theorem dX3_look_20 : decode cX3_look 20 = .ok (.getfield 9, 3) := by decide +kernel
theorem dX3_look_23 : decode cX3_look 23 = .ok (.invokevirtual 30, 3) := by decide +kernel
theorem dX3_look_26 : decode cX3_look 26 = .ok (.aload_n 0, 1) := by decide +kernel
theorem dX3_look_27 : decode cX3_look 27 = .ok (.getfield 15, 3) := by decide +kernel
theorem dX3_look_30 : decode cX3_look 30 = .ok (.if_icmp .ne 7, 3) := by decide +kernel
theorem dX3_look_33 : decode cX3_look 33 = .ok (.iconst 1, 1) := by decide +kernel
theorem dX3_look_34 : decode cX3_look 34 = .ok (.goto 4, 3) := by decide +kernel
theorem dX3_look_37 : decode cX3_look 37 = .ok (.iconst 0, 1) := by decide +kernel
theorem dX3_look_38 : decode cX3_look 38 = .ok (.istore_n 2, 1) := by decide +kernel
theorem dX3_look_39 : decode cX3_look 39 = .ok (.iload_n 2, 1) := by decide +kernel
theorem dX3_look_40 : decode cX3_look 40 = .ok (.ifCond .eq 36, 3) := by decide +kernel
theorem dX3_look_43 : decode cX3_look 43 = .ok (.aload_n 0, 1) := by decide +kernel
theorem dX3_look_44 : decode cX3_look 44 = .ok (.aload_n 1, 1) := by decide +kernel
theorem dX3_look_45 : decode cX3_look 45 = .ok (.invokevirtual 34, 3) := by decide +kernel
theorem dX3_look_48 : decode cX3_look 48 = .ok (.aload_n 0, 1) := by decide +kernel
theorem dX3_look_49 : decode cX3_look 49 = .ok (.aload_n 1, 1) := by decide +kernel
theorem dX3_look_50 : decode cX3_look 50 = .ok (.putfield 21, 3) := by decide +kernel
theorem dX3_look_53 : decode cX3_look 53 = .ok (.aload_n 0, 1) := by decide +kernel
theorem dX3_look_54 : decode cX3_look 54 = .ok (.aload_n 1, 1) := by decide +kernel
theorem dX3_look_55 : decode cX3_look 55 = .ok (.getfield 25, 3) := by decide +kernel
theorem dX3_look_58 : decode cX3_look 58 = .ok (.putfield 9, 3) := by decide +kernel
theorem dX3_look_61 : decode cX3_look 61 = .ok (.aload_n 0, 1) := by decide +kernel
theorem dX3_look_62 : decode cX3_look 62 = .ok (.aload_n 1, 1) := by decide +kernel
theorem dX3_look_63 : decode cX3_look 63 = .ok (.aload_n 0, 1) := by decide +kernel
theorem dX3_look_64 : decode cX3_look 64 = .ok (.getfield 9, 3) := by decide +kernel
theorem dX3_look_67 : decode cX3_look 67 = .ok (.invokevirtual 30, 3) := by decide +kernel
theorem dX3_look_70 : decode cX3_look 70 = .ok (.putfield 15, 3) := by decide +kernel
theorem dX3_look_73 : decode cX3_look 73 = .ok (.goto 8, 3) := by decide +kernel
theorem dX3_look_76 : decode cX3_look 76 = .ok (.aload_n 0, 1) := by decide +kernel
theorem dX3_look_77 : decode cX3_look 77 = .ok (.iconst 1, 1) := by decide +kernel
theorem dX3_look_78 : decode cX3_look 78 = .ok (.putfield 38, 3) := by decide +kernel
theorem dX3_look_81 : decode cX3_look 81 = .ok (.iload_n 2, 1) := by decide +kernel
theorem dX3_look_82 : decode cX3_look 82 = .ok (.ireturn, 1) := by decide +kernel
theorem dX3_countNew_0 : decode cX3_countNew 0 = .ok (.aload_n 0, 1) := by decide +kernel
theorem dX3_countNew_1 : decode cX3_countNew 1 = .ok (.getfield 18, 3) := by decide +kernel
theorem dX3_countNew_4 : decode cX3_countNew 4 = .ok (.iconst (-1), 1) := by decide +kernel
theorem dX3_countNew_5 : decode cX3_countNew 5 = .ok (.if_icmp .ne 4, 3) := by decide +kernel
theorem dX3_countNew_8 : decode cX3_countNew 8 = .ok (.return_, 1) := by decide +kernel
theorem dX3_countNew_9 : decode cX3_countNew 9 = .ok (.aload_n 0, 1) := by decide +kernel
theorem dX3_countNew_10 : decode cX3_countNew 10 = .ok (.getfield 21, 3) := by decide +kernel
theorem dX3_countNew_13 : decode cX3_countNew 13 = .ok (.ifnonnull 7, 3) := by decide +kernel
theorem dX3_countNew_16 : decode cX3_countNew 16 = .ok (.iconst 0, 1) := by decide +kernel
theorem dX3_countNew_17 : decode cX3_countNew 17 = .ok (.goto 7, 3) := by decide +kernel
theorem dX3_countNew_20 : decode cX3_countNew 20 = .ok (.aload_n 0, 1) := by decide +kernel
theorem dX3_countNew_21 : decode cX3_countNew 21 = .ok (.getfield 9, 3) := by decide +kernel
theorem dX3_countNew_24 : decode cX3_countNew 24 = .ok (.istore_n 2, 1) := by decide +kernel
theorem dX3_countNew_25 : decode cX3_countNew 25 = .ok (.iload_n 2, 1) := by decide +kernel
theorem dX3_countNew_26 : decode cX3_countNew 26 = .ok (.aload_n 1, 1) := by decide +kernel
theorem dX3_countNew_27 : decode cX3_countNew 27 = .ok (.getfield 25, 3) := by decide +kernel
theorem dX3_countNew_30 : decode cX3_countNew 30 = .ok (.if_icmp .ge 31, 3) := by decide +kernel
theorem dX3_countNew_33 : decode cX3_countNew 33 = .ok (.aload_n 1, 1) := by decide +kernel
theorem dX3_countNew_34 : decode cX3_countNew 34 = .ok (.iload_n 2, 1) := by decide +kernel
theorem dX3_countNew_35 : decode cX3_countNew 35 = .ok (.invokevirtual 42, 3) := by decide +kernel
theorem dX3_countNew_38 : decode cX3_countNew 38 = .ok (.aload_n 0, 1) := by decide +kernel
theorem dX3_countNew_39 : decode cX3_countNew 39 = .ok (.getfield 18, 3) := by decide +kernel
theorem dX3_countNew_42 : decode cX3_countNew 42 = .ok (.if_icmp .ne 13, 3) := by decide +kernel
theorem dX3_countNew_45 : decode cX3_countNew 45 = .ok (.aload_n 0, 1) := by decide +kernel
theorem dX3_countNew_46 : decode cX3_countNew 46 = .ok (.dup, 1) := by decide +kernel
theorem dX3_countNew_47 : decode cX3_countNew 47 = .ok (.getfield 45, 3) := by decide +kernel
theorem dX3_countNew_50 : decode cX3_countNew 50 = .ok (.iconst 1, 1) := by decide +kernel
theorem dX3_countNew_51 : decode cX3_countNew 51 = .ok (.iadd, 1) := by decide +kernel
theorem dX3_countNew_52 : decode cX3_countNew 52 = .ok (.putfield 45, 3) := by decide +kernel
theorem dX3_countNew_55 : decode cX3_countNew 55 = .ok (.iinc 2 1, 3) := by decide +kernel
theorem dX3_countNew_58 : decode cX3_countNew 58 = .ok (.goto (-33), 3) := by decide +kernel
theorem dX3_countNew_61 : decode cX3_countNew 61 = .ok (.return_, 1) := by decide +kernel
theorem dX3_fits_0 : decode cX3_fits 0 = .ok (.aload_n 0, 1) := by decide +kernel
theorem dX3_fits_1 : decode cX3_fits 1 = .ok (.getfield 21, 3) := by decide +kernel
theorem dX3_fits_4 : decode cX3_fits 4 = .ok (.ifnull 10, 3) := by decide +kernel
theorem dX3_fits_7 : decode cX3_fits 7 = .ok (.aload_n 1, 1) := by decide +kernel
theorem dX3_fits_8 : decode cX3_fits 8 = .ok (.getfield 21, 3) := by decide +kernel
theorem dX3_fits_11 : decode cX3_fits 11 = .ok (.ifnonnull 5, 3) := by decide +kernel
theorem dX3_fits_14 : decode cX3_fits 14 = .ok (.iconst 1, 1) := by decide +kernel
theorem dX3_fits_15 : decode cX3_fits 15 = .ok (.ireturn, 1) := by decide +kernel
theorem dX3_fits_16 : decode cX3_fits 16 = .ok (.aload_n 0, 1) := by decide +kernel
theorem dX3_fits_17 : decode cX3_fits 17 = .ok (.getfield 9, 3) := by decide +kernel
theorem dX3_fits_20 : decode cX3_fits 20 = .ok (.aload_n 1, 1) := by decide +kernel
theorem dX3_fits_21 : decode cX3_fits 21 = .ok (.getfield 9, 3) := by decide +kernel
theorem dX3_fits_24 : decode cX3_fits 24 = .ok (.if_icmp .lt 29, 3) := by decide +kernel
theorem dX3_fits_27 : decode cX3_fits 27 = .ok (.aload_n 0, 1) := by decide +kernel
theorem dX3_fits_28 : decode cX3_fits 28 = .ok (.getfield 21, 3) := by decide +kernel
theorem dX3_fits_31 : decode cX3_fits 31 = .ok (.aload_n 1, 1) := by decide +kernel
theorem dX3_fits_32 : decode cX3_fits 32 = .ok (.getfield 9, 3) := by decide +kernel
theorem dX3_fits_35 : decode cX3_fits 35 = .ok (.invokevirtual 30, 3) := by decide +kernel
theorem dX3_fits_38 : decode cX3_fits 38 = .ok (.aload_n 1, 1) := by decide +kernel
theorem dX3_fits_39 : decode cX3_fits 39 = .ok (.getfield 15, 3) := by decide +kernel
theorem dX3_fits_42 : decode cX3_fits 42 = .ok (.if_icmp .ne 7, 3) := by decide +kernel
theorem dX3_fits_45 : decode cX3_fits 45 = .ok (.iconst 1, 1) := by decide +kernel
theorem dX3_fits_46 : decode cX3_fits 46 = .ok (.goto 30, 3) := by decide +kernel
theorem dX3_fits_49 : decode cX3_fits 49 = .ok (.iconst 0, 1) := by decide +kernel
theorem dX3_fits_50 : decode cX3_fits 50 = .ok (.goto 26, 3) := by decide +kernel
theorem dX3_fits_53 : decode cX3_fits 53 = .ok (.aload_n 1, 1) := by decide +kernel
theorem dX3_fits_54 : decode cX3_fits 54 = .ok (.getfield 21, 3) := by decide +kernel
theorem dX3_fits_57 : decode cX3_fits 57 = .ok (.aload_n 0, 1) := by decide +kernel
theorem dX3_fits_58 : decode cX3_fits 58 = .ok (.getfield 9, 3) := by decide +kernel
theorem dX3_fits_61 : decode cX3_fits 61 = .ok (.invokevirtual 30, 3) := by decide +kernel
theorem dX3_fits_64 : decode cX3_fits 64 = .ok (.aload_n 0, 1) := by decide +kernel
theorem dX3_fits_65 : decode cX3_fits 65 = .ok (.getfield 15, 3) := by decide +kernel
theorem dX3_fits_68 : decode cX3_fits 68 = .ok (.if_icmp .ne 7, 3) := by decide +kernel
theorem dX3_fits_71 : decode cX3_fits 71 = .ok (.iconst 1, 1) := by decide +kernel
theorem dX3_fits_72 : decode cX3_fits 72 = .ok (.goto 4, 3) := by decide +kernel
theorem dX3_fits_75 : decode cX3_fits 75 = .ok (.iconst 0, 1) := by decide +kernel
theorem dX3_fits_76 : decode cX3_fits 76 = .ok (.ireturn, 1) := by decide +kernel
theorem dX4_init_0 : decode cX4_init 0 = .ok (.aload_n 0, 1) := by decide +kernel
theorem dX4_init_1 : decode cX4_init 1 = .ok (.invokespecial 3, 3) := by decide +kernel
theorem dX4_init_4 : decode cX4_init 4 = .ok (.aload_n 0, 1) := by decide +kernel
theorem dX4_init_5 : decode cX4_init 5 = .ok (.bipush 12, 2) := by decide +kernel
theorem dX4_init_7 : decode cX4_init 7 = .ok (.newarray .int, 2) := by decide +kernel
theorem dX4_init_9 : decode cX4_init 9 = .ok (.putfield 9, 3) := by decide +kernel
theorem dX4_init_12 : decode cX4_init 12 = .ok (.aload_n 0, 1) := by decide +kernel
theorem dX4_init_13 : decode cX4_init 13 = .ok (.bipush 12, 2) := by decide +kernel
theorem dX4_init_15 : decode cX4_init 15 = .ok (.newarray .int, 2) := by decide +kernel
theorem dX4_init_17 : decode cX4_init 17 = .ok (.putfield 15, 3) := by decide +kernel
theorem dX4_init_20 : decode cX4_init 20 = .ok (.aload_n 0, 1) := by decide +kernel
theorem dX4_init_21 : decode cX4_init 21 = .ok (.bipush 12, 2) := by decide +kernel
theorem dX4_init_23 : decode cX4_init 23 = .ok (.newarray .boolean, 2) := by decide +kernel
theorem dX4_init_25 : decode cX4_init 25 = .ok (.putfield 18, 3) := by decide +kernel
theorem dX4_init_28 : decode cX4_init 28 = .ok (.return_, 1) := by decide +kernel
theorem dX4_leadToLeaf_0 : decode cX4_leadToLeaf 0 = .ok (.aload_n 0, 1) := by decide +kernel
theorem dX4_leadToLeaf_1 : decode cX4_leadToLeaf 1 = .ok (.iload_n 1, 1) := by decide +kernel
theorem dX4_leadToLeaf_2 : decode cX4_leadToLeaf 2 = .ok (.iload_n 2, 1) := by decide +kernel
theorem dX4_leadToLeaf_3 : decode cX4_leadToLeaf 3 = .ok (.invokevirtual 22, 3) := by decide +kernel
theorem dX4_leadToLeaf_6 : decode cX4_leadToLeaf 6 = .ok (.iconst 0, 1) := by decide +kernel
theorem dX4_leadToLeaf_7 : decode cX4_leadToLeaf 7 = .ok (.istore_n 3, 1) := by decide +kernel
theorem dX4_leadToLeaf_8 : decode cX4_leadToLeaf 8 = .ok (.iload_n 3, 1) := by decide +kernel
theorem dX4_leadToLeaf_9 : decode cX4_leadToLeaf 9 = .ok (.bipush 12, 2) := by decide +kernel
theorem dX4_leadToLeaf_11 : decode cX4_leadToLeaf 11 = .ok (.if_icmp .ge 21, 3) := by decide +kernel
theorem dX4_leadToLeaf_14 : decode cX4_leadToLeaf 14 = .ok (.aload_n 0, 1) := by decide +kernel
theorem dX4_leadToLeaf_15 : decode cX4_leadToLeaf 15 = .ok (.getfield 26, 3) := by decide +kernel
theorem dX4_leadToLeaf_18 : decode cX4_leadToLeaf 18 = .ok (.iconst 1, 1) := by decide +kernel
theorem dX4_leadToLeaf_19 : decode cX4_leadToLeaf 19 = .ok (.if_icmp .le 13, 3) := by decide +kernel
theorem dX4_leadToLeaf_22 : decode cX4_leadToLeaf 22 = .ok (.aload_n 0, 1) := by decide +kernel
theorem dX4_leadToLeaf_23 : decode cX4_leadToLeaf 23 = .ok (.invokevirtual 30, 3) := by decide +kernel
theorem dX4_leadToLeaf_26 : decode cX4_leadToLeaf 26 = .ok (.iinc 3 1, 3) := by decide +kernel
theorem dX4_leadToLeaf_29 : decode cX4_leadToLeaf 29 = .ok (.goto (-21), 3) := by decide +kernel
theorem dX4_leadToLeaf_32 : decode cX4_leadToLeaf 32 = .ok (.return_, 1) := by decide +kernel
theorem dX4_leadToGrowth_0 : decode cX4_leadToGrowth 0 = .ok (.aload_n 0, 1) := by decide +kernel
theorem dX4_leadToGrowth_1 : decode cX4_leadToGrowth 1 = .ok (.iload_n 1, 1) := by decide +kernel
theorem dX4_leadToGrowth_2 : decode cX4_leadToGrowth 2 = .ok (.iconst 1, 1) := by decide +kernel
theorem dX4_leadToGrowth_3 : decode cX4_leadToGrowth 3 = .ok (.isub, 1) := by decide +kernel
theorem dX4_leadToGrowth_4 : decode cX4_leadToGrowth 4 = .ok (.iload_n 2, 1) := by decide +kernel
theorem dX4_leadToGrowth_5 : decode cX4_leadToGrowth 5 = .ok (.invokevirtual 22, 3) := by decide +kernel
theorem dX4_leadToGrowth_8 : decode cX4_leadToGrowth 8 = .ok (.iconst 0, 1) := by decide +kernel
theorem dX4_leadToGrowth_9 : decode cX4_leadToGrowth 9 = .ok (.istore_n 3, 1) := by decide +kernel
theorem dX4_leadToGrowth_10 : decode cX4_leadToGrowth 10 = .ok (.iload_n 3, 1) := by decide +kernel
theorem dX4_leadToGrowth_11 : decode cX4_leadToGrowth 11 = .ok (.bipush 12, 2) := by decide +kernel
theorem dX4_leadToGrowth_13 : decode cX4_leadToGrowth 13 = .ok (.if_icmp .ge 26, 3) := by decide +kernel
theorem dX4_leadToGrowth_16 : decode cX4_leadToGrowth 16 = .ok (.aload_n 0, 1) := by decide +kernel
theorem dX4_leadToGrowth_17 : decode cX4_leadToGrowth 17 = .ok (.getfield 33, 3) := by decide +kernel
theorem dX4_leadToGrowth_20 : decode cX4_leadToGrowth 20 = .ok (.aload_n 0, 1) := by decide +kernel
theorem dX4_leadToGrowth_21 : decode cX4_leadToGrowth 21 = .ok (.getfield 26, 3) := by decide +kernel
theorem dX4_leadToGrowth_24 : decode cX4_leadToGrowth 24 = .ok (.iconst 1, 1) := by decide +kernel
theorem dX4_leadToGrowth_25 : decode cX4_leadToGrowth 25 = .ok (.isub, 1) := by decide +kernel
theorem dX4_leadToGrowth_26 : decode cX4_leadToGrowth 26 = .ok (.if_icmp .ge 13, 3) := by decide +kernel
theorem dX4_leadToGrowth_29 : decode cX4_leadToGrowth 29 = .ok (.aload_n 0, 1) := by decide +kernel
theorem dX4_leadToGrowth_30 : decode cX4_leadToGrowth 30 = .ok (.invokevirtual 30, 3) := by decide +kernel
theorem dX4_leadToGrowth_33 : decode cX4_leadToGrowth 33 = .ok (.iinc 3 1, 3) := by decide +kernel
theorem dX4_leadToGrowth_36 : decode cX4_leadToGrowth 36 = .ok (.goto (-26), 3) := by decide +kernel
theorem dX4_leadToGrowth_39 : decode cX4_leadToGrowth 39 = .ok (.aload_n 0, 1) := by decide +kernel
theorem dX4_leadToGrowth_40 : decode cX4_leadToGrowth 40 = .ok (.invokevirtual 36, 3) := by decide +kernel
theorem dX4_leadToGrowth_43 : decode cX4_leadToGrowth 43 = .ok (.ifCond .ne 16, 3) := by decide +kernel
theorem dX4_leadToGrowth_46 : decode cX4_leadToGrowth 46 = .ok (.aload_n 0, 1) := by decide +kernel
theorem dX4_leadToGrowth_47 : decode cX4_leadToGrowth 47 = .ok (.aload_n 0, 1) := by decide +kernel
theorem dX4_leadToGrowth_48 : decode cX4_leadToGrowth 48 = .ok (.getfield 40, 3) := by decide +kernel
theorem dX4_leadToGrowth_51 : decode cX4_leadToGrowth 51 = .ok (.aload_n 0, 1) := by decide +kernel
theorem dX4_leadToGrowth_52 : decode cX4_leadToGrowth 52 = .ok (.getfield 26, 3) := by decide +kernel
theorem dX4_leadToGrowth_55 : decode cX4_leadToGrowth 55 = .ok (.iconst 0, 1) := by decide +kernel
theorem dX4_leadToGrowth_56 : decode cX4_leadToGrowth 56 = .ok (.invokevirtual 43, 3) := by decide +kernel
theorem dX4_leadToGrowth_59 : decode cX4_leadToGrowth 59 = .ok (.return_, 1) := by decide +kernel
theorem dX4_endsInTrust_0 : decode cX4_endsInTrust 0 = .ok (.aload_n 0, 1) := by decide +kernel
theorem dX4_endsInTrust_1 : decode cX4_endsInTrust 1 = .ok (.getfield 40, 3) := by decide +kernel
theorem dX4_endsInTrust_4 : decode cX4_endsInTrust 4 = .ok (.ifCond .ne 7, 3) := by decide +kernel
theorem dX4_endsInTrust_7 : decode cX4_endsInTrust 7 = .ok (.iconst 1, 1) := by decide +kernel
theorem dX4_endsInTrust_8 : decode cX4_endsInTrust 8 = .ok (.goto 4, 3) := by decide +kernel
theorem dX4_endsInTrust_11 : decode cX4_endsInTrust 11 = .ok (.iconst 0, 1) := by decide +kernel
theorem dX4_endsInTrust_12 : decode cX4_endsInTrust 12 = .ok (.ireturn, 1) := by decide +kernel
theorem dX4_begin_0 : decode cX4_begin 0 = .ok (.aload_n 0, 1) := by decide +kernel
theorem dX4_begin_1 : decode cX4_begin 1 = .ok (.iconst 0, 1) := by decide +kernel
theorem dX4_begin_2 : decode cX4_begin 2 = .ok (.putfield 47, 3) := by decide +kernel
theorem dX4_begin_5 : decode cX4_begin 5 = .ok (.aload_n 0, 1) := by decide +kernel
theorem dX4_begin_6 : decode cX4_begin 6 = .ok (.iconst 0, 1) := by decide +kernel
theorem dX4_begin_7 : decode cX4_begin 7 = .ok (.putfield 40, 3) := by decide +kernel
theorem dX4_begin_10 : decode cX4_begin 10 = .ok (.aload_n 0, 1) := by decide +kernel
theorem dX4_begin_11 : decode cX4_begin 11 = .ok (.iload_n 2, 1) := by decide +kernel
theorem dX4_begin_12 : decode cX4_begin 12 = .ok (.putfield 26, 3) := by decide +kernel
theorem dX4_begin_15 : decode cX4_begin 15 = .ok (.aload_n 0, 1) := by decide +kernel
theorem dX4_begin_16 : decode cX4_begin 16 = .ok (.iload_n 1, 1) := by decide +kernel
theorem dX4_begin_17 : decode cX4_begin 17 = .ok (.putfield 33, 3) := by decide +kernel
theorem dX4_begin_20 : decode cX4_begin 20 = .ok (.return_, 1) := by decide +kernel
theorem dX4_goDown_0 : decode cX4_goDown 0 = .ok (.aload_n 0, 1) := by decide +kernel
theorem dX4_goDown_1 : decode cX4_goDown 1 = .ok (.getfield 26, 3) := by decide +kernel
theorem dX4_goDown_4 : decode cX4_goDown 4 = .ok (.invokestatic 50, 3) := by decide +kernel
theorem dX4_goDown_7 : decode cX4_goDown 7 = .ok (.istore_n 1, 1) := by decide +kernel
theorem dX4_goDown_8 : decode cX4_goDown 8 = .ok (.aload_n 0, 1) := by decide +kernel
theorem dX4_goDown_9 : decode cX4_goDown 9 = .ok (.getfield 33, 3) := by decide +kernel
theorem dX4_goDown_12 : decode cX4_goDown 12 = .ok (.iload_n 1, 1) := by decide +kernel
theorem dX4_goDown_13 : decode cX4_goDown 13 = .ok (.if_icmp .ge 28, 3) := by decide +kernel
theorem dX4_goDown_16 : decode cX4_goDown 16 = .ok (.aload_n 0, 1) := by decide +kernel
theorem dX4_goDown_17 : decode cX4_goDown 17 = .ok (.aload_n 0, 1) := by decide +kernel
theorem dX4_goDown_18 : decode cX4_goDown 18 = .ok (.getfield 40, 3) := by decide +kernel
theorem dX4_goDown_21 : decode cX4_goDown 21 = .ok (.iload_n 1, 1) := by decide +kernel
theorem dX4_goDown_22 : decode cX4_goDown 22 = .ok (.iadd, 1) := by decide +kernel
theorem dX4_goDown_23 : decode cX4_goDown 23 = .ok (.aload_n 0, 1) := by decide +kernel
theorem dX4_goDown_24 : decode cX4_goDown 24 = .ok (.getfield 26, 3) := by decide +kernel
theorem dX4_goDown_27 : decode cX4_goDown 27 = .ok (.iload_n 1, 1) := by decide +kernel
theorem dX4_goDown_28 : decode cX4_goDown 28 = .ok (.isub, 1) := by decide +kernel
theorem dX4_goDown_29 : decode cX4_goDown 29 = .ok (.iconst 0, 1) := by decide +kernel
theorem dX4_goDown_30 : decode cX4_goDown 30 = .ok (.invokevirtual 43, 3) := by decide +kernel
theorem dX4_goDown_33 : decode cX4_goDown 33 = .ok (.aload_n 0, 1) := by decide +kernel
theorem dX4_goDown_34 : decode cX4_goDown 34 = .ok (.iload_n 1, 1) := by decide +kernel
theorem dX4_goDown_35 : decode cX4_goDown 35 = .ok (.putfield 26, 3) := by decide +kernel
theorem dX4_goDown_38 : decode cX4_goDown 38 = .ok (.goto 43, 3) := by decide +kernel
theorem dX4_goDown_41 : decode cX4_goDown 41 = .ok (.aload_n 0, 1) := by decide +kernel
theorem dX4_goDown_42 : decode cX4_goDown 42 = .ok (.aload_n 0, 1) := by decide +kernel
theorem dX4_goDown_43 : decode cX4_goDown 43 = .ok (.getfield 40, 3) := by decide +kernel
theorem dX4_goDown_46 : decode cX4_goDown 46 = .ok (.iload_n 1, 1) := by decide +kernel
theorem dX4_goDown_47 : decode cX4_goDown 47 = .ok (.iconst 1, 1) := by decide +kernel
theorem dX4_goDown_48 : decode cX4_goDown 48 = .ok (.invokevirtual 43, 3) := by decide +kernel
theorem dX4_goDown_51 : decode cX4_goDown 51 = .ok (.aload_n 0, 1) := by decide +kernel
theorem dX4_goDown_52 : decode cX4_goDown 52 = .ok (.dup, 1) := by decide +kernel
theorem dX4_goDown_53 : decode cX4_goDown 53 = .ok (.getfield 40, 3) := by decide +kernel
theorem dX4_goDown_56 : decode cX4_goDown 56 = .ok (.iload_n 1, 1) := by decide +kernel
theorem dX4_goDown_57 : decode cX4_goDown 57 = .ok (.iadd, 1) := by decide +kernel
theorem dX4_goDown_58 : decode cX4_goDown 58 = .ok (.putfield 40, 3) := by decide +kernel
theorem dX4_goDown_61 : decode cX4_goDown 61 = .ok (.aload_n 0, 1) := by decide +kernel
theorem dX4_goDown_62 : decode cX4_goDown 62 = .ok (.dup, 1) := by decide +kernel
theorem dX4_goDown_63 : decode cX4_goDown 63 = .ok (.getfield 26, 3) := by decide +kernel
theorem dX4_goDown_66 : decode cX4_goDown 66 = .ok (.iload_n 1, 1) := by decide +kernel
theorem dX4_goDown_67 : decode cX4_goDown 67 = .ok (.isub, 1) := by decide +kernel
theorem dX4_goDown_68 : decode cX4_goDown 68 = .ok (.putfield 26, 3) := by decide +kernel
theorem dX4_goDown_71 : decode cX4_goDown 71 = .ok (.aload_n 0, 1) := by decide +kernel
theorem dX4_goDown_72 : decode cX4_goDown 72 = .ok (.dup, 1) := by decide +kernel
theorem dX4_goDown_73 : decode cX4_goDown 73 = .ok (.getfield 33, 3) := by decide +kernel
theorem dX4_goDown_76 : decode cX4_goDown 76 = .ok (.iload_n 1, 1) := by decide +kernel
theorem dX4_goDown_77 : decode cX4_goDown 77 = .ok (.isub, 1) := by decide +kernel
theorem dX4_goDown_78 : decode cX4_goDown 78 = .ok (.putfield 33, 3) := by decide +kernel
theorem dX4_goDown_81 : decode cX4_goDown 81 = .ok (.return_, 1) := by decide +kernel
theorem dX4_leaveBeside_0 : decode cX4_leaveBeside 0 = .ok (.aload_n 0, 1) := by decide +kernel
theorem dX4_leaveBeside_1 : decode cX4_leaveBeside 1 = .ok (.getfield 47, 3) := by decide +kernel
theorem dX4_leaveBeside_4 : decode cX4_leaveBeside 4 = .ok (.ifCond .lt 12, 3) := by decide +kernel
theorem dX4_leaveBeside_7 : decode cX4_leaveBeside 7 = .ok (.aload_n 0, 1) := by decide +kernel
theorem dX4_leaveBeside_8 : decode cX4_leaveBeside 8 = .ok (.getfield 47, 3) := by decide +kernel
theorem dX4_leaveBeside_11 : decode cX4_leaveBeside 11 = .ok (.bipush 12, 2) := by decide +kernel
theorem dX4_leaveBeside_13 : decode cX4_leaveBeside 13 = .ok (.if_icmp .lt 4, 3) := by decide +kernel
theorem dX4_leaveBeside_16 : decode cX4_leaveBeside 16 = .ok (.return_, 1) := by decide +kernel
theorem dX4_leaveBeside_17 : decode cX4_leaveBeside 17 = .ok (.aload_n 0, 1) := by decide +kernel
theorem dX4_leaveBeside_18 : decode cX4_leaveBeside 18 = .ok (.getfield 9, 3) := by decide +kernel
theorem dX4_leaveBeside_21 : decode cX4_leaveBeside 21 = .ok (.aload_n 0, 1) := by decide +kernel
theorem dX4_leaveBeside_22 : decode cX4_leaveBeside 22 = .ok (.getfield 47, 3) := by decide +kernel
theorem dX4_leaveBeside_25 : decode cX4_leaveBeside 25 = .ok (.iload_n 1, 1) := by decide +kernel
theorem dX4_leaveBeside_26 : decode cX4_leaveBeside 26 = .ok (.iastore, 1) := by decide +kernel
theorem dX4_leaveBeside_27 : decode cX4_leaveBeside 27 = .ok (.aload_n 0, 1) := by decide +kernel
theorem dX4_leaveBeside_28 : decode cX4_leaveBeside 28 = .ok (.getfield 15, 3) := by decide +kernel
theorem dX4_leaveBeside_31 : decode cX4_leaveBeside 31 = .ok (.aload_n 0, 1) := by decide +kernel
theorem dX4_leaveBeside_32 : decode cX4_leaveBeside 32 = .ok (.getfield 47, 3) := by decide +kernel
theorem dX4_leaveBeside_35 : decode cX4_leaveBeside 35 = .ok (.iload_n 2, 1) := by decide +kernel
theorem dX4_leaveBeside_36 : decode cX4_leaveBeside 36 = .ok (.iastore, 1) := by decide +kernel
theorem dX4_leaveBeside_37 : decode cX4_leaveBeside 37 = .ok (.aload_n 0, 1) := by decide +kernel
theorem dX4_leaveBeside_38 : decode cX4_leaveBeside 38 = .ok (.getfield 18, 3) := by decide +kernel
theorem dX4_leaveBeside_41 : decode cX4_leaveBeside 41 = .ok (.aload_n 0, 1) := by decide +kernel
theorem dX4_leaveBeside_42 : decode cX4_leaveBeside 42 = .ok (.getfield 47, 3) := by decide +kernel
theorem dX4_leaveBeside_45 : decode cX4_leaveBeside 45 = .ok (.iload_n 3, 1) := by decide +kernel
theorem dX4_leaveBeside_46 : decode cX4_leaveBeside 46 = .ok (.bastore, 1) := by decide +kernel
theorem dX4_leaveBeside_47 : decode cX4_leaveBeside 47 = .ok (.aload_n 0, 1) := by decide +kernel
theorem dX4_leaveBeside_48 : decode cX4_leaveBeside 48 = .ok (.dup, 1) := by decide +kernel
theorem dX4_leaveBeside_49 : decode cX4_leaveBeside 49 = .ok (.getfield 47, 3) := by decide +kernel
theorem dX4_leaveBeside_52 : decode cX4_leaveBeside 52 = .ok (.iconst 1, 1) := by decide +kernel
theorem dX4_leaveBeside_53 : decode cX4_leaveBeside 53 = .ok (.iadd, 1) := by decide +kernel
theorem dX4_leaveBeside_54 : decode cX4_leaveBeside 54 = .ok (.putfield 47, 3) := by decide +kernel
theorem dX4_leaveBeside_57 : decode cX4_leaveBeside 57 = .ok (.return_, 1) := by decide +kernel
theorem dX4_rootOfPlace_0 : decode cX4_rootOfPlace 0 = .ok (.aload_n 0, 1) := by decide +kernel
theorem dX4_rootOfPlace_1 : decode cX4_rootOfPlace 1 = .ok (.getfield 47, 3) := by decide +kernel
theorem dX4_rootOfPlace_4 : decode cX4_rootOfPlace 4 = .ok (.iconst 1, 1) := by decide +kernel
theorem dX4_rootOfPlace_5 : decode cX4_rootOfPlace 5 = .ok (.isub, 1) := by decide +kernel
theorem dX4_rootOfPlace_6 : decode cX4_rootOfPlace 6 = .ok (.iload_n 2, 1) := by decide +kernel
theorem dX4_rootOfPlace_7 : decode cX4_rootOfPlace 7 = .ok (.isub, 1) := by decide +kernel
theorem dX4_rootOfPlace_8 : decode cX4_rootOfPlace 8 = .ok (.istore_n 3, 1) := by decide +kernel
theorem dX4_rootOfPlace_9 : decode cX4_rootOfPlace 9 = .ok (.iload_n 3, 1) := by decide +kernel
theorem dX4_rootOfPlace_10 : decode cX4_rootOfPlace 10 = .ok (.ifCond .lt 28, 3) := by decide +kernel
theorem dX4_rootOfPlace_13 : decode cX4_rootOfPlace 13 = .ok (.iload_n 3, 1) := by decide +kernel
theorem dX4_rootOfPlace_14 : decode cX4_rootOfPlace 14 = .ok (.bipush 12, 2) := by decide +kernel
theorem dX4_rootOfPlace_16 : decode cX4_rootOfPlace 16 = .ok (.if_icmp .ge 22, 3) := by decide +kernel
theorem dX4_rootOfPlace_19 : decode cX4_rootOfPlace 19 = .ok (.aload_n 1, 1) := by decide +kernel
theorem dX4_rootOfPlace_20 : decode cX4_rootOfPlace 20 = .ok (.aload_n 0, 1) := by decide +kernel
theorem dX4_rootOfPlace_21 : decode cX4_rootOfPlace 21 = .ok (.getfield 9, 3) := by decide +kernel
theorem dX4_rootOfPlace_24 : decode cX4_rootOfPlace 24 = .ok (.iload_n 3, 1) := by decide +kernel
theorem dX4_rootOfPlace_25 : decode cX4_rootOfPlace 25 = .ok (.iaload, 1) := by decide +kernel
theorem dX4_rootOfPlace_26 : decode cX4_rootOfPlace 26 = .ok (.aload_n 0, 1) := by decide +kernel
theorem dX4_rootOfPlace_27 : decode cX4_rootOfPlace 27 = .ok (.getfield 15, 3) := by decide +kernel
theorem dX4_rootOfPlace_30 : decode cX4_rootOfPlace 30 = .ok (.iload_n 3, 1) := by decide +kernel
theorem dX4_rootOfPlace_31 : decode cX4_rootOfPlace 31 = .ok (.iaload, 1) := by decide +kernel
theorem dX4_rootOfPlace_32 : decode cX4_rootOfPlace 32 = .ok (.invokevirtual 56, 3) := by decide +kernel
theorem dX4_rootOfPlace_35 : decode cX4_rootOfPlace 35 = .ok (.goto 4, 3) := by decide +kernel
theorem dX4_rootOfPlace_38 : decode cX4_rootOfPlace 38 = .ok (.iconst 0, 1) := by decide +kernel
theorem dX4_rootOfPlace_39 : decode cX4_rootOfPlace 39 = .ok (.ireturn, 1) := by decide +kernel
theorem dX4_isFirstAt_0 : decode cX4_isFirstAt 0 = .ok (.aload_n 0, 1) := by decide +kernel
theorem dX4_isFirstAt_1 : decode cX4_isFirstAt 1 = .ok (.getfield 47, 3) := by decide +kernel
theorem dX4_isFirstAt_4 : decode cX4_isFirstAt 4 = .ok (.iconst 1, 1) := by decide +kernel
theorem dX4_isFirstAt_5 : decode cX4_isFirstAt 5 = .ok (.isub, 1) := by decide +kernel
theorem dX4_isFirstAt_6 : decode cX4_isFirstAt 6 = .ok (.iload_n 1, 1) := by decide +kernel
theorem dX4_isFirstAt_7 : decode cX4_isFirstAt 7 = .ok (.isub, 1) := by decide +kernel
theorem dX4_isFirstAt_8 : decode cX4_isFirstAt 8 = .ok (.istore_n 2, 1) := by decide +kernel
theorem dX4_isFirstAt_9 : decode cX4_isFirstAt 9 = .ok (.iload_n 2, 1) := by decide +kernel
theorem dX4_isFirstAt_10 : decode cX4_isFirstAt 10 = .ok (.ifCond .lt 22, 3) := by decide +kernel
theorem dX4_isFirstAt_13 : decode cX4_isFirstAt 13 = .ok (.iload_n 2, 1) := by decide +kernel
theorem dX4_isFirstAt_14 : decode cX4_isFirstAt 14 = .ok (.bipush 12, 2) := by decide +kernel
theorem dX4_isFirstAt_16 : decode cX4_isFirstAt 16 = .ok (.if_icmp .ge 16, 3) := by decide +kernel
theorem dX4_isFirstAt_19 : decode cX4_isFirstAt 19 = .ok (.aload_n 0, 1) := by decide +kernel
theorem dX4_isFirstAt_20 : decode cX4_isFirstAt 20 = .ok (.getfield 18, 3) := by decide +kernel
theorem dX4_isFirstAt_23 : decode cX4_isFirstAt 23 = .ok (.iload_n 2, 1) := by decide +kernel
theorem dX4_isFirstAt_24 : decode cX4_isFirstAt 24 = .ok (.baload, 1) := by decide +kernel
theorem dX4_isFirstAt_25 : decode cX4_isFirstAt 25 = .ok (.ifCond .eq 7, 3) := by decide +kernel
theorem dX4_isFirstAt_28 : decode cX4_isFirstAt 28 = .ok (.iconst 1, 1) := by decide +kernel
theorem dX4_isFirstAt_29 : decode cX4_isFirstAt 29 = .ok (.goto 4, 3) := by decide +kernel
theorem dX4_isFirstAt_32 : decode cX4_isFirstAt 32 = .ok (.iconst 0, 1) := by decide +kernel
theorem dX4_isFirstAt_33 : decode cX4_isFirstAt 33 = .ok (.ireturn, 1) := by decide +kernel
theorem dX5_init_0 : decode cX5_init 0 = .ok (.aload_n 0, 1) := by decide +kernel
theorem dX5_init_1 : decode cX5_init 1 = .ok (.invokespecial 1, 3) := by decide +kernel
theorem dX5_init_4 : decode cX5_init 4 = .ok (.aload_n 0, 1) := by decide +kernel
theorem dX5_init_5 : decode cX5_init 5 = .ok (.iconst 3, 1) := by decide +kernel
theorem dX5_init_6 : decode cX5_init 6 = .ok (.anewarray 9, 3) := by decide +kernel
theorem dX5_init_9 : decode cX5_init 9 = .ok (.putfield 11, 3) := by decide +kernel
theorem dX5_init_12 : decode cX5_init 12 = .ok (.aload_n 0, 1) := by decide +kernel
theorem dX5_init_13 : decode cX5_init 13 = .ok (.iconst 4, 1) := by decide +kernel
theorem dX5_init_14 : decode cX5_init 14 = .ok (.anewarray 15, 3) := by decide +kernel
theorem dX5_init_17 : decode cX5_init 17 = .ok (.putfield 17, 3) := by decide +kernel
theorem dX5_init_20 : decode cX5_init 20 = .ok (.aload_n 0, 1) := by decide +kernel
theorem dX5_init_21 : decode cX5_init 21 = .ok (.new 21, 3) := by decide +kernel
theorem dX5_init_24 : decode cX5_init 24 = .ok (.dup, 1) := by decide +kernel
theorem dX5_init_25 : decode cX5_init 25 = .ok (.invokespecial 23, 3) := by decide +kernel
theorem dX5_init_28 : decode cX5_init 28 = .ok (.putfield 24, 3) := by decide +kernel
theorem dX5_init_31 : decode cX5_init 31 = .ok (.aload_n 0, 1) := by decide +kernel
theorem dX5_init_32 : decode cX5_init 32 = .ok (.new 28, 3) := by decide +kernel
theorem dX5_init_35 : decode cX5_init 35 = .ok (.dup, 1) := by decide +kernel
theorem dX5_init_36 : decode cX5_init 36 = .ok (.invokespecial 30, 3) := by decide +kernel
theorem dX5_init_39 : decode cX5_init 39 = .ok (.putfield 31, 3) := by decide +kernel
theorem dX5_init_42 : decode cX5_init 42 = .ok (.aload_n 0, 1) := by decide +kernel
theorem dX5_init_43 : decode cX5_init 43 = .ok (.iconst 1, 1) := by decide +kernel
theorem dX5_init_44 : decode cX5_init 44 = .ok (.putfield 35, 3) := by decide +kernel
theorem dX5_init_47 : decode cX5_init 47 = .ok (.aload_n 0, 1) := by decide +kernel
theorem dX5_init_48 : decode cX5_init 48 = .ok (.getfield 11, 3) := by decide +kernel
theorem dX5_init_51 : decode cX5_init 51 = .ok (.iconst 0, 1) := by decide +kernel
theorem dX5_init_52 : decode cX5_init 52 = .ok (.new 9, 3) := by decide +kernel
theorem dX5_init_55 : decode cX5_init 55 = .ok (.dup, 1) := by decide +kernel
theorem dX5_init_56 : decode cX5_init 56 = .ok (.invokespecial 39, 3) := by decide +kernel
theorem dX5_init_59 : decode cX5_init 59 = .ok (.aastore, 1) := by decide +kernel
theorem dX5_init_60 : decode cX5_init 60 = .ok (.iconst 0, 1) := by decide +kernel
theorem dX5_init_61 : decode cX5_init 61 = .ok (.istore_n 1, 1) := by decide +kernel
theorem dX5_init_62 : decode cX5_init 62 = .ok (.iload_n 1, 1) := by decide +kernel
theorem dX5_init_63 : decode cX5_init 63 = .ok (.aload_n 0, 1) := by decide +kernel
theorem dX5_init_64 : decode cX5_init 64 = .ok (.getfield 17, 3) := by decide +kernel
theorem dX5_init_67 : decode cX5_init 67 = .ok (.arraylength, 1) := by decide +kernel
theorem dX5_init_68 : decode cX5_init 68 = .ok (.if_icmp .ge 22, 3) := by decide +kernel
theorem dX5_init_71 : decode cX5_init 71 = .ok (.aload_n 0, 1) := by decide +kernel
theorem dX5_init_72 : decode cX5_init 72 = .ok (.getfield 17, 3) := by decide +kernel
theorem dX5_init_75 : decode cX5_init 75 = .ok (.iload_n 1, 1) := by decide +kernel
theorem dX5_init_76 : decode cX5_init 76 = .ok (.new 15, 3) := by decide +kernel
theorem dX5_init_79 : decode cX5_init 79 = .ok (.dup, 1) := by decide +kernel
theorem dX5_init_80 : decode cX5_init 80 = .ok (.invokespecial 40, 3) := by decide +kernel
theorem dX5_init_83 : decode cX5_init 83 = .ok (.aastore, 1) := by decide +kernel
theorem dX5_init_84 : decode cX5_init 84 = .ok (.iinc 1 1, 3) := by decide +kernel
theorem dX5_init_87 : decode cX5_init 87 = .ok (.goto (-25), 3) := by decide +kernel
theorem dX5_init_90 : decode cX5_init 90 = .ok (.return_, 1) := by decide +kernel
theorem dX5_append_0 : decode cX5_append 0 = .ok (.aload_n 0, 1) := by decide +kernel
theorem dX5_append_1 : decode cX5_append 1 = .ok (.iload_n 1, 1) := by decide +kernel
theorem dX5_append_2 : decode cX5_append 2 = .ok (.invokevirtual 41, 3) := by decide +kernel
theorem dX5_append_5 : decode cX5_append 5 = .ok (.astore_n 3, 1) := by decide +kernel
theorem dX5_append_6 : decode cX5_append 6 = .ok (.iload_n 2, 1) := by decide +kernel
theorem dX5_append_7 : decode cX5_append 7 = .ok (.iconst 0, 1) := by decide +kernel
theorem dX5_append_8 : decode cX5_append 8 = .ok (.ldc 45, 2) := by decide +kernel
theorem dX5_append_10 : decode cX5_append 10 = .ok (.invokestatic 46, 3) := by decide +kernel
theorem dX5_append_13 : decode cX5_append 13 = .ok (.aload_n 3, 1) := by decide +kernel
theorem dX5_append_14 : decode cX5_append 14 = .ok (.iconst 1, 1) := by decide +kernel
theorem dX5_append_15 : decode cX5_append 15 = .ok (.invokestatic 50, 3) := by decide +kernel
theorem dX5_append_18 : decode cX5_append 18 = .ok (.aload_n 3, 1) := by decide +kernel
theorem dX5_append_19 : decode cX5_append 19 = .ok (.iload_n 2, 1) := by decide +kernel
theorem dX5_append_20 : decode cX5_append 20 = .ok (.invokevirtual 54, 3) := by decide +kernel
theorem dX5_append_23 : decode cX5_append 23 = .ok (.aload_n 3, 1) := by decide +kernel
theorem dX5_append_24 : decode cX5_append 24 = .ok (.getfield 58, 3) := by decide +kernel
theorem dX5_append_27 : decode cX5_append 27 = .ok (.iconst 1, 1) := by decide +kernel
theorem dX5_append_28 : decode cX5_append 28 = .ok (.isub, 1) := by decide +kernel
theorem dX5_append_29 : decode cX5_append 29 = .ok (.ireturn, 1) := by decide +kernel
theorem dX5_appendRow_0 : decode cX5_appendRow 0 = .ok (.aload_n 0, 1) := by decide +kernel
theorem dX5_appendRow_1 : decode cX5_appendRow 1 = .ok (.iload_n 1, 1) := by decide +kernel
theorem dX5_appendRow_2 : decode cX5_appendRow 2 = .ok (.invokevirtual 41, 3) := by decide +kernel
theorem dX5_appendRow_5 : decode cX5_appendRow 5 = .ok (.astore 4, 2) := by decide +kernel
theorem dX5_appendRow_7 : decode cX5_appendRow 7 = .ok (.iload_n 3, 1) := by decide +kernel
theorem dX5_appendRow_8 : decode cX5_appendRow 8 = .ok (.iconst 1, 1) := by decide +kernel
theorem dX5_appendRow_9 : decode cX5_appendRow 9 = .ok (.bipush 40, 2) := by decide +kernel
theorem dX5_appendRow_11 : decode cX5_appendRow 11 = .ok (.invokestatic 46, 3) := by decide +kernel
theorem dX5_appendRow_14 : decode cX5_appendRow 14 = .ok (.iload_n 2, 1) := by decide +kernel
theorem dX5_appendRow_15 : decode cX5_appendRow 15 = .ok (.iconst 0, 1) := by decide +kernel
theorem dX5_appendRow_16 : decode cX5_appendRow 16 = .ok (.ldc 45, 2) := by decide +kernel
theorem dX5_appendRow_18 : decode cX5_appendRow 18 = .ok (.iload_n 3, 1) := by decide +kernel
theorem dX5_appendRow_19 : decode cX5_appendRow 19 = .ok (.isub, 1) := by decide +kernel
theorem dX5_appendRow_20 : decode cX5_appendRow 20 = .ok (.iconst 1, 1) := by decide +kernel
theorem dX5_appendRow_21 : decode cX5_appendRow 21 = .ok (.iadd, 1) := by decide +kernel
theorem dX5_appendRow_22 : decode cX5_appendRow 22 = .ok (.invokestatic 46, 3) := by decide +kernel
theorem dX5_appendRow_25 : decode cX5_appendRow 25 = .ok (.aload 4, 2) := by decide +kernel
theorem dX5_appendRow_27 : decode cX5_appendRow 27 = .ok (.iload_n 3, 1) := by decide +kernel
theorem dX5_appendRow_28 : decode cX5_appendRow 28 = .ok (.invokestatic 50, 3) := by decide +kernel
theorem dX5_appendRow_31 : decode cX5_appendRow 31 = .ok (.iconst 0, 1) := by decide +kernel
theorem dX5_appendRow_32 : decode cX5_appendRow 32 = .ok (.istore 5, 2) := by decide +kernel
theorem dX5_appendRow_34 : decode cX5_appendRow 34 = .ok (.iload 5, 2) := by decide +kernel
theorem dX5_appendRow_36 : decode cX5_appendRow 36 = .ok (.iload_n 3, 1) := by decide +kernel
theorem dX5_appendRow_37 : decode cX5_appendRow 37 = .ok (.if_icmp .ge 18, 3) := by decide +kernel
theorem dX5_appendRow_40 : decode cX5_appendRow 40 = .ok (.aload 4, 2) := by decide +kernel
theorem dX5_appendRow_42 : decode cX5_appendRow 42 = .ok (.iload_n 2, 1) := by decide +kernel
theorem dX5_appendRow_43 : decode cX5_appendRow 43 = .ok (.iload 5, 2) := by decide +kernel
theorem dX5_appendRow_45 : decode cX5_appendRow 45 = .ok (.iadd, 1) := by decide +kernel
theorem dX5_appendRow_46 : decode cX5_appendRow 46 = .ok (.invokevirtual 54, 3) := by decide +kernel
theorem dX5_appendRow_49 : decode cX5_appendRow 49 = .ok (.iinc 5 1, 3) := by decide +kernel
theorem dX5_appendRow_52 : decode cX5_appendRow 52 = .ok (.goto (-18), 3) := by decide +kernel
theorem dX5_appendRow_55 : decode cX5_appendRow 55 = .ok (.aload 4, 2) := by decide +kernel
theorem dX5_appendRow_57 : decode cX5_appendRow 57 = .ok (.getfield 58, 3) := by decide +kernel
theorem dX5_appendRow_60 : decode cX5_appendRow 60 = .ok (.ireturn, 1) := by decide +kernel
theorem dX5_fork_0 : decode cX5_fork 0 = .ok (.aload_n 0, 1) := by decide +kernel
theorem dX5_fork_1 : decode cX5_fork 1 = .ok (.iload_n 1, 1) := by decide +kernel
theorem dX5_fork_2 : decode cX5_fork 2 = .ok (.invokevirtual 41, 3) := by decide +kernel
theorem dX5_fork_5 : decode cX5_fork 5 = .ok (.astore_n 3, 1) := by decide +kernel
theorem dX5_fork_6 : decode cX5_fork 6 = .ok (.iload_n 2, 1) := by decide +kernel
theorem dX5_fork_7 : decode cX5_fork 7 = .ok (.iconst 0, 1) := by decide +kernel
theorem dX5_fork_8 : decode cX5_fork 8 = .ok (.aload_n 3, 1) := by decide +kernel
theorem dX5_fork_9 : decode cX5_fork 9 = .ok (.getfield 58, 3) := by decide +kernel
theorem dX5_fork_12 : decode cX5_fork 12 = .ok (.invokestatic 46, 3) := by decide +kernel
theorem dX5_fork_15 : decode cX5_fork 15 = .ok (.aload_n 0, 1) := by decide +kernel
theorem dX5_fork_16 : decode cX5_fork 16 = .ok (.getfield 35, 3) := by decide +kernel
theorem dX5_fork_19 : decode cX5_fork 19 = .ok (.ifCond .lt 15, 3) := by decide +kernel
theorem dX5_fork_22 : decode cX5_fork 22 = .ok (.aload_n 0, 1) := by decide +kernel
theorem dX5_fork_23 : decode cX5_fork 23 = .ok (.getfield 35, 3) := by decide +kernel
theorem dX5_fork_26 : decode cX5_fork 26 = .ok (.aload_n 0, 1) := by decide +kernel
theorem dX5_fork_27 : decode cX5_fork 27 = .ok (.getfield 11, 3) := by decide +kernel
theorem dX5_fork_30 : decode cX5_fork 30 = .ok (.arraylength, 1) := by decide +kernel
theorem dX5_fork_31 : decode cX5_fork 31 = .ok (.if_icmp .lt 13, 3) := by decide +kernel
theorem dX5_fork_34 : decode cX5_fork 34 = .ok (.new 61, 3) := by decide +kernel
theorem dX5_fork_37 : decode cX5_fork 37 = .ok (.dup, 1) := by decide +kernel
theorem dX5_fork_38 : decode cX5_fork 38 = .ok (.ldc 63, 2) := by decide +kernel
theorem dX5_fork_40 : decode cX5_fork 40 = .ok (.invokespecial 65, 3) := by decide +kernel
theorem dX5_fork_43 : decode cX5_fork 43 = .ok (.athrow, 1) := by decide +kernel
theorem dX5_fork_44 : decode cX5_fork 44 = .ok (.new 9, 3) := by decide +kernel
theorem dX5_fork_47 : decode cX5_fork 47 = .ok (.dup, 1) := by decide +kernel
theorem dX5_fork_48 : decode cX5_fork 48 = .ok (.invokespecial 39, 3) := by decide +kernel
theorem dX5_fork_51 : decode cX5_fork 51 = .ok (.astore 4, 2) := by decide +kernel
theorem dX5_fork_53 : decode cX5_fork 53 = .ok (.iconst 0, 1) := by decide +kernel
theorem dX5_fork_54 : decode cX5_fork 54 = .ok (.istore 5, 2) := by decide +kernel
theorem dX5_fork_56 : decode cX5_fork 56 = .ok (.iload 5, 2) := by decide +kernel
theorem dX5_fork_58 : decode cX5_fork 58 = .ok (.iload_n 2, 1) := by decide +kernel
theorem dX5_fork_59 : decode cX5_fork 59 = .ok (.if_icmp .ge 20, 3) := by decide +kernel
theorem dX5_fork_62 : decode cX5_fork 62 = .ok (.aload 4, 2) := by decide +kernel
theorem dX5_fork_64 : decode cX5_fork 64 = .ok (.aload_n 3, 1) := by decide +kernel
theorem dX5_fork_65 : decode cX5_fork 65 = .ok (.iload 5, 2) := by decide +kernel
theorem dX5_fork_67 : decode cX5_fork 67 = .ok (.invokevirtual 68, 3) := by decide +kernel
theorem dX5_fork_70 : decode cX5_fork 70 = .ok (.invokevirtual 54, 3) := by decide +kernel
theorem dX5_fork_73 : decode cX5_fork 73 = .ok (.iinc 5 1, 3) := by decide +kernel
theorem dX5_fork_76 : decode cX5_fork 76 = .ok (.goto (-20), 3) := by decide +kernel
theorem dX5_fork_79 : decode cX5_fork 79 = .ok (.aload_n 0, 1) := by decide +kernel
theorem dX5_fork_80 : decode cX5_fork 80 = .ok (.getfield 11, 3) := by decide +kernel
theorem dX5_fork_83 : decode cX5_fork 83 = .ok (.aload_n 0, 1) := by decide +kernel
theorem dX5_fork_84 : decode cX5_fork 84 = .ok (.getfield 35, 3) := by decide +kernel
theorem dX5_fork_87 : decode cX5_fork 87 = .ok (.aload 4, 2) := by decide +kernel
theorem dX5_fork_89 : decode cX5_fork 89 = .ok (.aastore, 1) := by decide +kernel
theorem dX5_fork_90 : decode cX5_fork 90 = .ok (.aload_n 0, 1) := by decide +kernel
theorem dX5_fork_91 : decode cX5_fork 91 = .ok (.dup, 1) := by decide +kernel
theorem dX5_fork_92 : decode cX5_fork 92 = .ok (.getfield 35, 3) := by decide +kernel
theorem dX5_fork_95 : decode cX5_fork 95 = .ok (.iconst 1, 1) := by decide +kernel
theorem dX5_fork_96 : decode cX5_fork 96 = .ok (.iadd, 1) := by decide +kernel
theorem dX5_fork_97 : decode cX5_fork 97 = .ok (.putfield 35, 3) := by decide +kernel
theorem dX5_fork_100 : decode cX5_fork 100 = .ok (.aload_n 0, 1) := by decide +kernel
theorem dX5_fork_101 : decode cX5_fork 101 = .ok (.getfield 35, 3) := by decide +kernel
theorem dX5_fork_104 : decode cX5_fork 104 = .ok (.iconst 1, 1) := by decide +kernel
theorem dX5_fork_105 : decode cX5_fork 105 = .ok (.isub, 1) := by decide +kernel
theorem dX5_fork_106 : decode cX5_fork 106 = .ok (.ireturn, 1) := by decide +kernel
theorem dX5_views_0 : decode cX5_views 0 = .ok (.aload_n 0, 1) := by decide +kernel
theorem dX5_views_1 : decode cX5_views 1 = .ok (.getfield 35, 3) := by decide +kernel
theorem dX5_views_4 : decode cX5_views 4 = .ok (.ireturn, 1) := by decide +kernel
theorem dX5_size_0 : decode cX5_size 0 = .ok (.aload_n 0, 1) := by decide +kernel
theorem dX5_size_1 : decode cX5_size 1 = .ok (.iload_n 1, 1) := by decide +kernel
theorem dX5_size_2 : decode cX5_size 2 = .ok (.invokevirtual 41, 3) := by decide +kernel
theorem dX5_size_5 : decode cX5_size 5 = .ok (.getfield 58, 3) := by decide +kernel
theorem dX5_size_8 : decode cX5_size 8 = .ok (.ireturn, 1) := by decide +kernel
theorem dX5_leaf_0 : decode cX5_leaf 0 = .ok (.aload_n 0, 1) := by decide +kernel
theorem dX5_leaf_1 : decode cX5_leaf 1 = .ok (.iload_n 1, 1) := by decide +kernel
theorem dX5_leaf_2 : decode cX5_leaf 2 = .ok (.invokevirtual 41, 3) := by decide +kernel
theorem dX5_leaf_5 : decode cX5_leaf 5 = .ok (.astore_n 3, 1) := by decide +kernel
theorem dX5_leaf_6 : decode cX5_leaf 6 = .ok (.iload_n 2, 1) := by decide +kernel
theorem dX5_leaf_7 : decode cX5_leaf 7 = .ok (.ifCond .lt 11, 3) := by decide +kernel
theorem dX5_leaf_10 : decode cX5_leaf 10 = .ok (.iload_n 2, 1) := by decide +kernel
theorem dX5_leaf_11 : decode cX5_leaf 11 = .ok (.aload_n 3, 1) := by decide +kernel
theorem dX5_leaf_12 : decode cX5_leaf 12 = .ok (.getfield 58, 3) := by decide +kernel
theorem dX5_leaf_15 : decode cX5_leaf 15 = .ok (.if_icmp .lt 13, 3) := by decide +kernel
theorem dX5_leaf_18 : decode cX5_leaf 18 = .ok (.new 72, 3) := by decide +kernel
theorem dX5_leaf_21 : decode cX5_leaf 21 = .ok (.dup, 1) := by decide +kernel
theorem dX5_leaf_22 : decode cX5_leaf 22 = .ok (.ldc 74, 2) := by decide +kernel
theorem dX5_leaf_24 : decode cX5_leaf 24 = .ok (.invokespecial 76, 3) := by decide +kernel
theorem dX5_leaf_27 : decode cX5_leaf 27 = .ok (.athrow, 1) := by decide +kernel
theorem dX5_leaf_28 : decode cX5_leaf 28 = .ok (.aload_n 3, 1) := by decide +kernel
theorem dX5_leaf_29 : decode cX5_leaf 29 = .ok (.iload_n 2, 1) := by decide +kernel
theorem dX5_leaf_30 : decode cX5_leaf 30 = .ok (.invokevirtual 68, 3) := by decide +kernel
theorem dX5_leaf_33 : decode cX5_leaf 33 = .ok (.ireturn, 1) := by decide +kernel
theorem dX5_root_0 : decode cX5_root 0 = .ok (.aload_n 0, 1) := by decide +kernel
theorem dX5_root_1 : decode cX5_root 1 = .ok (.iload_n 1, 1) := by decide +kernel
theorem dX5_root_2 : decode cX5_root 2 = .ok (.invokevirtual 41, 3) := by decide +kernel
theorem dX5_root_5 : decode cX5_root 5 = .ok (.astore_n 3, 1) := by decide +kernel
theorem dX5_root_6 : decode cX5_root 6 = .ok (.iload_n 2, 1) := by decide +kernel
theorem dX5_root_7 : decode cX5_root 7 = .ok (.iconst 0, 1) := by decide +kernel
theorem dX5_root_8 : decode cX5_root 8 = .ok (.aload_n 3, 1) := by decide +kernel
theorem dX5_root_9 : decode cX5_root 9 = .ok (.getfield 58, 3) := by decide +kernel
theorem dX5_root_12 : decode cX5_root 12 = .ok (.invokestatic 46, 3) := by decide +kernel
theorem dX5_root_15 : decode cX5_root 15 = .ok (.aload_n 3, 1) := by decide +kernel
theorem dX5_root_16 : decode cX5_root 16 = .ok (.iload_n 2, 1) := by decide +kernel
theorem dX5_root_17 : decode cX5_root 17 = .ok (.invokevirtual 77, 3) := by decide +kernel
theorem dX5_root_20 : decode cX5_root 20 = .ok (.ireturn, 1) := by decide +kernel
theorem dX5_rootAnew_0 : decode cX5_rootAnew 0 = .ok (.aload_n 0, 1) := by decide +kernel
theorem dX5_rootAnew_1 : decode cX5_rootAnew 1 = .ok (.iload_n 1, 1) := by decide +kernel
theorem dX5_rootAnew_2 : decode cX5_rootAnew 2 = .ok (.invokevirtual 41, 3) := by decide +kernel
theorem dX5_rootAnew_5 : decode cX5_rootAnew 5 = .ok (.astore_n 3, 1) := by decide +kernel
theorem dX5_rootAnew_6 : decode cX5_rootAnew 6 = .ok (.iload_n 2, 1) := by decide +kernel
theorem dX5_rootAnew_7 : decode cX5_rootAnew 7 = .ok (.iconst 0, 1) := by decide +kernel
theorem dX5_rootAnew_8 : decode cX5_rootAnew 8 = .ok (.aload_n 3, 1) := by decide +kernel
theorem dX5_rootAnew_9 : decode cX5_rootAnew 9 = .ok (.getfield 58, 3) := by decide +kernel
theorem dX5_rootAnew_12 : decode cX5_rootAnew 12 = .ok (.invokestatic 46, 3) := by decide +kernel
theorem dX5_rootAnew_15 : decode cX5_rootAnew 15 = .ok (.aload_n 3, 1) := by decide +kernel
theorem dX5_rootAnew_16 : decode cX5_rootAnew 16 = .ok (.iload_n 2, 1) := by decide +kernel
theorem dX5_rootAnew_17 : decode cX5_rootAnew 17 = .ok (.invokevirtual 80, 3) := by decide +kernel
theorem dX5_rootAnew_20 : decode cX5_rootAnew 20 = .ok (.ireturn, 1) := by decide +kernel
theorem dX5_loadLeaf_0 : decode cX5_loadLeaf 0 = .ok (.aload_n 0, 1) := by decide +kernel
theorem dX5_loadLeaf_1 : decode cX5_loadLeaf 1 = .ok (.iload_n 1, 1) := by decide +kernel
theorem dX5_loadLeaf_2 : decode cX5_loadLeaf 2 = .ok (.invokevirtual 41, 3) := by decide +kernel
theorem dX5_loadLeaf_5 : decode cX5_loadLeaf 5 = .ok (.astore 4, 2) := by decide +kernel
theorem dX5_loadLeaf_7 : decode cX5_loadLeaf 7 = .ok (.iload_n 3, 1) := by decide +kernel
theorem dX5_loadLeaf_8 : decode cX5_loadLeaf 8 = .ok (.iconst 1, 1) := by decide +kernel
theorem dX5_loadLeaf_9 : decode cX5_loadLeaf 9 = .ok (.aload 4, 2) := by decide +kernel
theorem dX5_loadLeaf_11 : decode cX5_loadLeaf 11 = .ok (.getfield 58, 3) := by decide +kernel
theorem dX5_loadLeaf_14 : decode cX5_loadLeaf 14 = .ok (.invokestatic 46, 3) := by decide +kernel
theorem dX5_loadLeaf_17 : decode cX5_loadLeaf 17 = .ok (.iload_n 2, 1) := by decide +kernel
theorem dX5_loadLeaf_18 : decode cX5_loadLeaf 18 = .ok (.iconst 0, 1) := by decide +kernel
theorem dX5_loadLeaf_19 : decode cX5_loadLeaf 19 = .ok (.iload_n 3, 1) := by decide +kernel
theorem dX5_loadLeaf_20 : decode cX5_loadLeaf 20 = .ok (.iconst 1, 1) := by decide +kernel
theorem dX5_loadLeaf_21 : decode cX5_loadLeaf 21 = .ok (.isub, 1) := by decide +kernel
theorem dX5_loadLeaf_22 : decode cX5_loadLeaf 22 = .ok (.invokestatic 46, 3) := by decide +kernel
theorem dX5_loadLeaf_25 : decode cX5_loadLeaf 25 = .ok (.aload_n 0, 1) := by decide +kernel
theorem dX5_loadLeaf_26 : decode cX5_loadLeaf 26 = .ok (.getfield 24, 3) := by decide +kernel
theorem dX5_loadLeaf_29 : decode cX5_loadLeaf 29 = .ok (.aload 4, 2) := by decide +kernel
theorem dX5_loadLeaf_31 : decode cX5_loadLeaf 31 = .ok (.iload_n 2, 1) := by decide +kernel
theorem dX5_loadLeaf_32 : decode cX5_loadLeaf 32 = .ok (.iload_n 3, 1) := by decide +kernel
theorem dX5_loadLeaf_33 : decode cX5_loadLeaf 33 = .ok (.invokevirtual 83, 3) := by decide +kernel
theorem dX5_loadLeaf_36 : decode cX5_loadLeaf 36 = .ok (.aload_n 0, 1) := by decide +kernel
theorem dX5_loadLeaf_37 : decode cX5_loadLeaf 37 = .ok (.getfield 24, 3) := by decide +kernel
theorem dX5_loadLeaf_40 : decode cX5_loadLeaf 40 = .ok (.getfield 87, 3) := by decide +kernel
theorem dX5_loadLeaf_43 : decode cX5_loadLeaf 43 = .ok (.ireturn, 1) := by decide +kernel
theorem dX5_loadGrowth_0 : decode cX5_loadGrowth 0 = .ok (.aload_n 0, 1) := by decide +kernel
theorem dX5_loadGrowth_1 : decode cX5_loadGrowth 1 = .ok (.iload_n 1, 1) := by decide +kernel
theorem dX5_loadGrowth_2 : decode cX5_loadGrowth 2 = .ok (.invokevirtual 41, 3) := by decide +kernel
theorem dX5_loadGrowth_5 : decode cX5_loadGrowth 5 = .ok (.astore 4, 2) := by decide +kernel
theorem dX5_loadGrowth_7 : decode cX5_loadGrowth 7 = .ok (.iload_n 3, 1) := by decide +kernel
theorem dX5_loadGrowth_8 : decode cX5_loadGrowth 8 = .ok (.iconst 1, 1) := by decide +kernel
theorem dX5_loadGrowth_9 : decode cX5_loadGrowth 9 = .ok (.aload 4, 2) := by decide +kernel
theorem dX5_loadGrowth_11 : decode cX5_loadGrowth 11 = .ok (.getfield 58, 3) := by decide +kernel
theorem dX5_loadGrowth_14 : decode cX5_loadGrowth 14 = .ok (.invokestatic 46, 3) := by decide +kernel
theorem dX5_loadGrowth_17 : decode cX5_loadGrowth 17 = .ok (.iload_n 2, 1) := by decide +kernel
theorem dX5_loadGrowth_18 : decode cX5_loadGrowth 18 = .ok (.iconst 1, 1) := by decide +kernel
theorem dX5_loadGrowth_19 : decode cX5_loadGrowth 19 = .ok (.iload_n 3, 1) := by decide +kernel
theorem dX5_loadGrowth_20 : decode cX5_loadGrowth 20 = .ok (.invokestatic 46, 3) := by decide +kernel
theorem dX5_loadGrowth_23 : decode cX5_loadGrowth 23 = .ok (.aload_n 0, 1) := by decide +kernel
theorem dX5_loadGrowth_24 : decode cX5_loadGrowth 24 = .ok (.getfield 24, 3) := by decide +kernel
theorem dX5_loadGrowth_27 : decode cX5_loadGrowth 27 = .ok (.aload 4, 2) := by decide +kernel
theorem dX5_loadGrowth_29 : decode cX5_loadGrowth 29 = .ok (.iload_n 2, 1) := by decide +kernel
theorem dX5_loadGrowth_30 : decode cX5_loadGrowth 30 = .ok (.iload_n 3, 1) := by decide +kernel
theorem dX5_loadGrowth_31 : decode cX5_loadGrowth 31 = .ok (.invokevirtual 90, 3) := by decide +kernel
theorem dX5_loadGrowth_34 : decode cX5_loadGrowth 34 = .ok (.aload_n 0, 1) := by decide +kernel
theorem dX5_loadGrowth_35 : decode cX5_loadGrowth 35 = .ok (.getfield 24, 3) := by decide +kernel
theorem dX5_loadGrowth_38 : decode cX5_loadGrowth 38 = .ok (.getfield 87, 3) := by decide +kernel
theorem dX5_loadGrowth_41 : decode cX5_loadGrowth 41 = .ok (.ireturn, 1) := by decide +kernel
theorem dX5_loadKey_0 : decode cX5_loadKey 0 = .ok (.iload_n 1, 1) := by decide +kernel
theorem dX5_loadKey_1 : decode cX5_loadKey 1 = .ok (.iconst 0, 1) := by decide +kernel
theorem dX5_loadKey_2 : decode cX5_loadKey 2 = .ok (.bipush 63, 2) := by decide +kernel
theorem dX5_loadKey_4 : decode cX5_loadKey 4 = .ok (.invokestatic 46, 3) := by decide +kernel
theorem dX5_loadKey_7 : decode cX5_loadKey 7 = .ok (.aload_n 0, 1) := by decide +kernel
theorem dX5_loadKey_8 : decode cX5_loadKey 8 = .ok (.getfield 24, 3) := by decide +kernel
theorem dX5_loadKey_11 : decode cX5_loadKey 11 = .ok (.aload_n 0, 1) := by decide +kernel
theorem dX5_loadKey_12 : decode cX5_loadKey 12 = .ok (.getfield 31, 3) := by decide +kernel
theorem dX5_loadKey_15 : decode cX5_loadKey 15 = .ok (.iload_n 1, 1) := by decide +kernel
theorem dX5_loadKey_16 : decode cX5_loadKey 16 = .ok (.invokevirtual 93, 3) := by decide +kernel
theorem dX5_loadKey_19 : decode cX5_loadKey 19 = .ok (.aload_n 0, 1) := by decide +kernel
theorem dX5_loadKey_20 : decode cX5_loadKey 20 = .ok (.getfield 24, 3) := by decide +kernel
theorem dX5_loadKey_23 : decode cX5_loadKey 23 = .ok (.getfield 87, 3) := by decide +kernel
theorem dX5_loadKey_26 : decode cX5_loadKey 26 = .ok (.ireturn, 1) := by decide +kernel
theorem dX5_change_0 : decode cX5_change 0 = .ok (.iload_n 1, 1) := by decide +kernel
theorem dX5_change_1 : decode cX5_change 1 = .ok (.ifCond .lt 14, 3) := by decide +kernel
theorem dX5_change_4 : decode cX5_change 4 = .ok (.iload_n 1, 1) := by decide +kernel
theorem dX5_change_5 : decode cX5_change 5 = .ok (.aload_n 0, 1) := by decide +kernel
theorem dX5_change_6 : decode cX5_change 6 = .ok (.getfield 24, 3) := by decide +kernel
theorem dX5_change_9 : decode cX5_change 9 = .ok (.getfield 87, 3) := by decide +kernel
theorem dX5_change_12 : decode cX5_change 12 = .ok (.if_icmp .le 13, 3) := by decide +kernel
theorem dX5_change_15 : decode cX5_change 15 = .ok (.new 72, 3) := by decide +kernel
theorem dX5_change_18 : decode cX5_change 18 = .ok (.dup, 1) := by decide +kernel
theorem dX5_change_19 : decode cX5_change 19 = .ok (.ldc 97, 2) := by decide +kernel
theorem dX5_change_21 : decode cX5_change 21 = .ok (.invokespecial 76, 3) := by decide +kernel
theorem dX5_change_24 : decode cX5_change 24 = .ok (.athrow, 1) := by decide +kernel
theorem dX5_change_25 : decode cX5_change 25 = .ok (.iload_n 2, 1) := by decide +kernel
theorem dX5_change_26 : decode cX5_change 26 = .ok (.iconst 0, 1) := by decide +kernel
theorem dX5_change_27 : decode cX5_change 27 = .ok (.ldc 99, 2) := by decide +kernel
theorem dX5_change_29 : decode cX5_change 29 = .ok (.invokestatic 46, 3) := by decide +kernel
theorem dX5_change_32 : decode cX5_change 32 = .ok (.iload_n 1, 1) := by decide +kernel
theorem dX5_change_33 : decode cX5_change 33 = .ok (.bipush 12, 2) := by decide +kernel
theorem dX5_change_35 : decode cX5_change 35 = .ok (.if_icmp .lt 13, 3) := by decide +kernel
theorem dX5_change_38 : decode cX5_change 38 = .ok (.new 61, 3) := by decide +kernel
theorem dX5_change_41 : decode cX5_change 41 = .ok (.dup, 1) := by decide +kernel
theorem dX5_change_42 : decode cX5_change 42 = .ok (.ldc 100, 2) := by decide +kernel
theorem dX5_change_44 : decode cX5_change 44 = .ok (.invokespecial 65, 3) := by decide +kernel
theorem dX5_change_47 : decode cX5_change 47 = .ok (.athrow, 1) := by decide +kernel
theorem dX5_change_48 : decode cX5_change 48 = .ok (.aload_n 0, 1) := by decide +kernel
theorem dX5_change_49 : decode cX5_change 49 = .ok (.getfield 24, 3) := by decide +kernel
theorem dX5_change_52 : decode cX5_change 52 = .ok (.iload_n 1, 1) := by decide +kernel
theorem dX5_change_53 : decode cX5_change 53 = .ok (.iload_n 2, 1) := by decide +kernel
theorem dX5_change_54 : decode cX5_change 54 = .ok (.invokevirtual 102, 3) := by decide +kernel
theorem dX5_change_57 : decode cX5_change 57 = .ok (.aload_n 0, 1) := by decide +kernel
theorem dX5_change_58 : decode cX5_change 58 = .ok (.getfield 24, 3) := by decide +kernel
theorem dX5_change_61 : decode cX5_change 61 = .ok (.getfield 87, 3) := by decide +kernel
theorem dX5_change_64 : decode cX5_change 64 = .ok (.ireturn, 1) := by decide +kernel
theorem dX5_shorten_0 : decode cX5_shorten 0 = .ok (.aload_n 0, 1) := by decide +kernel
theorem dX5_shorten_1 : decode cX5_shorten 1 = .ok (.getfield 24, 3) := by decide +kernel
theorem dX5_shorten_4 : decode cX5_shorten 4 = .ok (.getfield 87, 3) := by decide +kernel
theorem dX5_shorten_7 : decode cX5_shorten 7 = .ok (.iconst 1, 1) := by decide +kernel
theorem dX5_shorten_8 : decode cX5_shorten 8 = .ok (.if_icmp .ge 13, 3) := by decide +kernel
theorem dX5_shorten_11 : decode cX5_shorten 11 = .ok (.new 61, 3) := by decide +kernel
theorem dX5_shorten_14 : decode cX5_shorten 14 = .ok (.dup, 1) := by decide +kernel
theorem dX5_shorten_15 : decode cX5_shorten 15 = .ok (.ldc 106, 2) := by decide +kernel
theorem dX5_shorten_17 : decode cX5_shorten 17 = .ok (.invokespecial 65, 3) := by decide +kernel
theorem dX5_shorten_20 : decode cX5_shorten 20 = .ok (.athrow, 1) := by decide +kernel
theorem dX5_shorten_21 : decode cX5_shorten 21 = .ok (.aload_n 0, 1) := by decide +kernel
theorem dX5_shorten_22 : decode cX5_shorten 22 = .ok (.getfield 24, 3) := by decide +kernel
theorem dX5_shorten_25 : decode cX5_shorten 25 = .ok (.invokevirtual 108, 3) := by decide +kernel
theorem dX5_shorten_28 : decode cX5_shorten 28 = .ok (.ireturn, 1) := by decide +kernel
theorem dX5_sums_0 : decode cX5_sums 0 = .ok (.aload_n 0, 1) := by decide +kernel
theorem dX5_sums_1 : decode cX5_sums 1 = .ok (.getfield 24, 3) := by decide +kernel
theorem dX5_sums_4 : decode cX5_sums 4 = .ok (.getfield 87, 3) := by decide +kernel
theorem dX5_sums_7 : decode cX5_sums 7 = .ok (.ireturn, 1) := by decide +kernel
theorem dX5_sumAt_0 : decode cX5_sumAt 0 = .ok (.iload_n 1, 1) := by decide +kernel
theorem dX5_sumAt_1 : decode cX5_sumAt 1 = .ok (.ifCond .lt 14, 3) := by decide +kernel
theorem dX5_sumAt_4 : decode cX5_sumAt 4 = .ok (.iload_n 1, 1) := by decide +kernel
theorem dX5_sumAt_5 : decode cX5_sumAt 5 = .ok (.aload_n 0, 1) := by decide +kernel
theorem dX5_sumAt_6 : decode cX5_sumAt 6 = .ok (.getfield 24, 3) := by decide +kernel
theorem dX5_sumAt_9 : decode cX5_sumAt 9 = .ok (.getfield 87, 3) := by decide +kernel
theorem dX5_sumAt_12 : decode cX5_sumAt 12 = .ok (.if_icmp .lt 13, 3) := by decide +kernel
theorem dX5_sumAt_15 : decode cX5_sumAt 15 = .ok (.new 72, 3) := by decide +kernel
theorem dX5_sumAt_18 : decode cX5_sumAt 18 = .ok (.dup, 1) := by decide +kernel
theorem dX5_sumAt_19 : decode cX5_sumAt 19 = .ok (.ldc 112, 2) := by decide +kernel
theorem dX5_sumAt_21 : decode cX5_sumAt 21 = .ok (.invokespecial 76, 3) := by decide +kernel
theorem dX5_sumAt_24 : decode cX5_sumAt 24 = .ok (.athrow, 1) := by decide +kernel
theorem dX5_sumAt_25 : decode cX5_sumAt 25 = .ok (.aload_n 0, 1) := by decide +kernel
theorem dX5_sumAt_26 : decode cX5_sumAt 26 = .ok (.getfield 24, 3) := by decide +kernel
theorem dX5_sumAt_29 : decode cX5_sumAt 29 = .ok (.iload_n 1, 1) := by decide +kernel
theorem dX5_sumAt_30 : decode cX5_sumAt 30 = .ok (.invokevirtual 114, 3) := by decide +kernel
theorem dX5_sumAt_33 : decode cX5_sumAt 33 = .ok (.ireturn, 1) := by decide +kernel
theorem dX5_testLeaf_0 : decode cX5_testLeaf 0 = .ok (.aload_n 0, 1) := by decide +kernel
theorem dX5_testLeaf_1 : decode cX5_testLeaf 1 = .ok (.iload_n 1, 1) := by decide +kernel
theorem dX5_testLeaf_2 : decode cX5_testLeaf 2 = .ok (.invokevirtual 41, 3) := by decide +kernel
theorem dX5_testLeaf_5 : decode cX5_testLeaf 5 = .ok (.astore 5, 2) := by decide +kernel
theorem dX5_testLeaf_7 : decode cX5_testLeaf 7 = .ok (.iload_n 2, 1) := by decide +kernel
theorem dX5_testLeaf_8 : decode cX5_testLeaf 8 = .ok (.iconst 0, 1) := by decide +kernel
theorem dX5_testLeaf_9 : decode cX5_testLeaf 9 = .ok (.ldc 45, 2) := by decide +kernel
theorem dX5_testLeaf_11 : decode cX5_testLeaf 11 = .ok (.invokestatic 46, 3) := by decide +kernel
theorem dX5_testLeaf_14 : decode cX5_testLeaf 14 = .ok (.iload 4, 2) := by decide +kernel
theorem dX5_testLeaf_16 : decode cX5_testLeaf 16 = .ok (.iconst 1, 1) := by decide +kernel
theorem dX5_testLeaf_17 : decode cX5_testLeaf 17 = .ok (.aload 5, 2) := by decide +kernel
theorem dX5_testLeaf_19 : decode cX5_testLeaf 19 = .ok (.getfield 58, 3) := by decide +kernel
theorem dX5_testLeaf_22 : decode cX5_testLeaf 22 = .ok (.invokestatic 46, 3) := by decide +kernel
theorem dX5_testLeaf_25 : decode cX5_testLeaf 25 = .ok (.iload_n 3, 1) := by decide +kernel
theorem dX5_testLeaf_26 : decode cX5_testLeaf 26 = .ok (.iconst 0, 1) := by decide +kernel
theorem dX5_testLeaf_27 : decode cX5_testLeaf 27 = .ok (.iload 4, 2) := by decide +kernel
theorem dX5_testLeaf_29 : decode cX5_testLeaf 29 = .ok (.iconst 1, 1) := by decide +kernel
theorem dX5_testLeaf_30 : decode cX5_testLeaf 30 = .ok (.isub, 1) := by decide +kernel
theorem dX5_testLeaf_31 : decode cX5_testLeaf 31 = .ok (.invokestatic 46, 3) := by decide +kernel
theorem dX5_testLeaf_34 : decode cX5_testLeaf 34 = .ok (.aload_n 0, 1) := by decide +kernel
theorem dX5_testLeaf_35 : decode cX5_testLeaf 35 = .ok (.getfield 24, 3) := by decide +kernel
theorem dX5_testLeaf_38 : decode cX5_testLeaf 38 = .ok (.iload_n 2, 1) := by decide +kernel
theorem dX5_testLeaf_39 : decode cX5_testLeaf 39 = .ok (.iload_n 3, 1) := by decide +kernel
theorem dX5_testLeaf_40 : decode cX5_testLeaf 40 = .ok (.iload 4, 2) := by decide +kernel
theorem dX5_testLeaf_42 : decode cX5_testLeaf 42 = .ok (.aload 5, 2) := by decide +kernel
theorem dX5_testLeaf_44 : decode cX5_testLeaf 44 = .ok (.iload 4, 2) := by decide +kernel
theorem dX5_testLeaf_46 : decode cX5_testLeaf 46 = .ok (.invokevirtual 77, 3) := by decide +kernel
theorem dX5_testLeaf_49 : decode cX5_testLeaf 49 = .ok (.invokevirtual 117, 3) := by decide +kernel
theorem dX5_testLeaf_52 : decode cX5_testLeaf 52 = .ok (.ireturn, 1) := by decide +kernel
theorem dX5_testGrowth_0 : decode cX5_testGrowth 0 = .ok (.aload_n 0, 1) := by decide +kernel
theorem dX5_testGrowth_1 : decode cX5_testGrowth 1 = .ok (.iload_n 1, 1) := by decide +kernel
theorem dX5_testGrowth_2 : decode cX5_testGrowth 2 = .ok (.invokevirtual 41, 3) := by decide +kernel
theorem dX5_testGrowth_5 : decode cX5_testGrowth 5 = .ok (.astore 5, 2) := by decide +kernel
theorem dX5_testGrowth_7 : decode cX5_testGrowth 7 = .ok (.aload_n 0, 1) := by decide +kernel
theorem dX5_testGrowth_8 : decode cX5_testGrowth 8 = .ok (.iload_n 3, 1) := by decide +kernel
theorem dX5_testGrowth_9 : decode cX5_testGrowth 9 = .ok (.invokevirtual 41, 3) := by decide +kernel
theorem dX5_testGrowth_12 : decode cX5_testGrowth 12 = .ok (.astore 6, 2) := by decide +kernel
theorem dX5_testGrowth_14 : decode cX5_testGrowth 14 = .ok (.iload 4, 2) := by decide +kernel
theorem dX5_testGrowth_16 : decode cX5_testGrowth 16 = .ok (.iconst 1, 1) := by decide +kernel
theorem dX5_testGrowth_17 : decode cX5_testGrowth 17 = .ok (.aload 6, 2) := by decide +kernel
theorem dX5_testGrowth_19 : decode cX5_testGrowth 19 = .ok (.getfield 58, 3) := by decide +kernel
theorem dX5_testGrowth_22 : decode cX5_testGrowth 22 = .ok (.invokestatic 46, 3) := by decide +kernel
theorem dX5_testGrowth_25 : decode cX5_testGrowth 25 = .ok (.iload_n 2, 1) := by decide +kernel
theorem dX5_testGrowth_26 : decode cX5_testGrowth 26 = .ok (.iconst 1, 1) := by decide +kernel
theorem dX5_testGrowth_27 : decode cX5_testGrowth 27 = .ok (.iload 4, 2) := by decide +kernel
theorem dX5_testGrowth_29 : decode cX5_testGrowth 29 = .ok (.invokestatic 46, 3) := by decide +kernel
theorem dX5_testGrowth_32 : decode cX5_testGrowth 32 = .ok (.iload_n 2, 1) := by decide +kernel
theorem dX5_testGrowth_33 : decode cX5_testGrowth 33 = .ok (.iconst 1, 1) := by decide +kernel
theorem dX5_testGrowth_34 : decode cX5_testGrowth 34 = .ok (.aload 5, 2) := by decide +kernel
theorem dX5_testGrowth_36 : decode cX5_testGrowth 36 = .ok (.getfield 58, 3) := by decide +kernel
theorem dX5_testGrowth_39 : decode cX5_testGrowth 39 = .ok (.invokestatic 46, 3) := by decide +kernel
theorem dX5_testGrowth_42 : decode cX5_testGrowth 42 = .ok (.aload_n 0, 1) := by decide +kernel
theorem dX5_testGrowth_43 : decode cX5_testGrowth 43 = .ok (.getfield 24, 3) := by decide +kernel
theorem dX5_testGrowth_46 : decode cX5_testGrowth 46 = .ok (.iload_n 2, 1) := by decide +kernel
theorem dX5_testGrowth_47 : decode cX5_testGrowth 47 = .ok (.aload 5, 2) := by decide +kernel
theorem dX5_testGrowth_49 : decode cX5_testGrowth 49 = .ok (.iload_n 2, 1) := by decide +kernel
theorem dX5_testGrowth_50 : decode cX5_testGrowth 50 = .ok (.invokevirtual 77, 3) := by decide +kernel
theorem dX5_testGrowth_53 : decode cX5_testGrowth 53 = .ok (.iload 4, 2) := by decide +kernel
theorem dX5_testGrowth_55 : decode cX5_testGrowth 55 = .ok (.aload 6, 2) := by decide +kernel
theorem dX5_testGrowth_57 : decode cX5_testGrowth 57 = .ok (.iload 4, 2) := by decide +kernel
theorem dX5_testGrowth_59 : decode cX5_testGrowth 59 = .ok (.invokevirtual 77, 3) := by decide +kernel
theorem dX5_testGrowth_62 : decode cX5_testGrowth 62 = .ok (.invokevirtual 121, 3) := by decide +kernel
theorem dX5_testGrowth_65 : decode cX5_testGrowth 65 = .ok (.ireturn, 1) := by decide +kernel
theorem dX5_testKey_0 : decode cX5_testKey 0 = .ok (.iload_n 1, 1) := by decide +kernel
theorem dX5_testKey_1 : decode cX5_testKey 1 = .ok (.iconst 0, 1) := by decide +kernel
theorem dX5_testKey_2 : decode cX5_testKey 2 = .ok (.bipush 63, 2) := by decide +kernel
theorem dX5_testKey_4 : decode cX5_testKey 4 = .ok (.invokestatic 46, 3) := by decide +kernel
theorem dX5_testKey_7 : decode cX5_testKey 7 = .ok (.iload_n 2, 1) := by decide +kernel
theorem dX5_testKey_8 : decode cX5_testKey 8 = .ok (.iconst (-1), 1) := by decide +kernel
theorem dX5_testKey_9 : decode cX5_testKey 9 = .ok (.if_icmp .eq 10, 3) := by decide +kernel
theorem dX5_testKey_12 : decode cX5_testKey 12 = .ok (.iload_n 2, 1) := by decide +kernel
theorem dX5_testKey_13 : decode cX5_testKey 13 = .ok (.iconst 0, 1) := by decide +kernel
theorem dX5_testKey_14 : decode cX5_testKey 14 = .ok (.ldc 45, 2) := by decide +kernel
theorem dX5_testKey_16 : decode cX5_testKey 16 = .ok (.invokestatic 46, 3) := by decide +kernel
theorem dX5_testKey_19 : decode cX5_testKey 19 = .ok (.aload_n 0, 1) := by decide +kernel
theorem dX5_testKey_20 : decode cX5_testKey 20 = .ok (.getfield 24, 3) := by decide +kernel
theorem dX5_testKey_23 : decode cX5_testKey 23 = .ok (.iload_n 1, 1) := by decide +kernel
theorem dX5_testKey_24 : decode cX5_testKey 24 = .ok (.iload_n 2, 1) := by decide +kernel
theorem dX5_testKey_25 : decode cX5_testKey 25 = .ok (.aload_n 0, 1) := by decide +kernel
theorem dX5_testKey_26 : decode cX5_testKey 26 = .ok (.getfield 31, 3) := by decide +kernel
theorem dX5_testKey_29 : decode cX5_testKey 29 = .ok (.invokevirtual 124, 3) := by decide +kernel
theorem dX5_testKey_32 : decode cX5_testKey 32 = .ok (.invokevirtual 127, 3) := by decide +kernel
theorem dX5_testKey_35 : decode cX5_testKey 35 = .ok (.ireturn, 1) := by decide +kernel
theorem dX5_put_0 : decode cX5_put 0 = .ok (.iload_n 1, 1) := by decide +kernel
theorem dX5_put_1 : decode cX5_put 1 = .ok (.iconst 0, 1) := by decide +kernel
theorem dX5_put_2 : decode cX5_put 2 = .ok (.bipush 63, 2) := by decide +kernel
theorem dX5_put_4 : decode cX5_put 4 = .ok (.invokestatic 46, 3) := by decide +kernel
theorem dX5_put_7 : decode cX5_put 7 = .ok (.iload_n 2, 1) := by decide +kernel
theorem dX5_put_8 : decode cX5_put 8 = .ok (.iconst 0, 1) := by decide +kernel
theorem dX5_put_9 : decode cX5_put 9 = .ok (.ldc 45, 2) := by decide +kernel
theorem dX5_put_11 : decode cX5_put 11 = .ok (.invokestatic 46, 3) := by decide +kernel
theorem dX5_put_14 : decode cX5_put 14 = .ok (.aload_n 0, 1) := by decide +kernel
theorem dX5_put_15 : decode cX5_put 15 = .ok (.getfield 31, 3) := by decide +kernel
theorem dX5_put_18 : decode cX5_put 18 = .ok (.iload_n 1, 1) := by decide +kernel
theorem dX5_put_19 : decode cX5_put 19 = .ok (.iload_n 2, 1) := by decide +kernel
theorem dX5_put_20 : decode cX5_put 20 = .ok (.invokevirtual 131, 3) := by decide +kernel
theorem dX5_put_23 : decode cX5_put 23 = .ok (.ireturn, 1) := by decide +kernel
theorem dX5_remove_0 : decode cX5_remove 0 = .ok (.iload_n 1, 1) := by decide +kernel
theorem dX5_remove_1 : decode cX5_remove 1 = .ok (.iconst 0, 1) := by decide +kernel
theorem dX5_remove_2 : decode cX5_remove 2 = .ok (.bipush 63, 2) := by decide +kernel
theorem dX5_remove_4 : decode cX5_remove 4 = .ok (.invokestatic 46, 3) := by decide +kernel
theorem dX5_remove_7 : decode cX5_remove 7 = .ok (.aload_n 0, 1) := by decide +kernel
theorem dX5_remove_8 : decode cX5_remove 8 = .ok (.getfield 31, 3) := by decide +kernel
theorem dX5_remove_11 : decode cX5_remove 11 = .ok (.iload_n 1, 1) := by decide +kernel
theorem dX5_remove_12 : decode cX5_remove 12 = .ok (.iconst (-1), 1) := by decide +kernel
theorem dX5_remove_13 : decode cX5_remove 13 = .ok (.invokevirtual 131, 3) := by decide +kernel
theorem dX5_remove_16 : decode cX5_remove 16 = .ok (.ireturn, 1) := by decide +kernel
theorem dX5_get_0 : decode cX5_get 0 = .ok (.iload_n 1, 1) := by decide +kernel
theorem dX5_get_1 : decode cX5_get 1 = .ok (.iconst 0, 1) := by decide +kernel
theorem dX5_get_2 : decode cX5_get 2 = .ok (.bipush 63, 2) := by decide +kernel
theorem dX5_get_4 : decode cX5_get 4 = .ok (.invokestatic 46, 3) := by decide +kernel
theorem dX5_get_7 : decode cX5_get 7 = .ok (.aload_n 0, 1) := by decide +kernel
theorem dX5_get_8 : decode cX5_get 8 = .ok (.getfield 31, 3) := by decide +kernel
theorem dX5_get_11 : decode cX5_get 11 = .ok (.iload_n 1, 1) := by decide +kernel
theorem dX5_get_12 : decode cX5_get 12 = .ok (.invokevirtual 135, 3) := by decide +kernel
theorem dX5_get_15 : decode cX5_get 15 = .ok (.ireturn, 1) := by decide +kernel
theorem dX5_mapRoot_0 : decode cX5_mapRoot 0 = .ok (.aload_n 0, 1) := by decide +kernel
theorem dX5_mapRoot_1 : decode cX5_mapRoot 1 = .ok (.getfield 31, 3) := by decide +kernel
theorem dX5_mapRoot_4 : decode cX5_mapRoot 4 = .ok (.invokevirtual 124, 3) := by decide +kernel
theorem dX5_mapRoot_7 : decode cX5_mapRoot 7 = .ok (.ireturn, 1) := by decide +kernel
theorem dX5_show_0 : decode cX5_show 0 = .ok (.aload_n 0, 1) := by decide +kernel
theorem dX5_show_1 : decode cX5_show 1 = .ok (.iload_n 1, 1) := by decide +kernel
theorem dX5_show_2 : decode cX5_show 2 = .ok (.invokevirtual 136, 3) := by decide +kernel
theorem dX5_show_5 : decode cX5_show 5 = .ok (.astore_n 3, 1) := by decide +kernel
theorem dX5_show_6 : decode cX5_show 6 = .ok (.aload_n 3, 1) := by decide +kernel
theorem dX5_show_7 : decode cX5_show 7 = .ok (.aload_n 0, 1) := by decide +kernel
theorem dX5_show_8 : decode cX5_show 8 = .ok (.iload_n 2, 1) := by decide +kernel
theorem dX5_show_9 : decode cX5_show 9 = .ok (.invokevirtual 41, 3) := by decide +kernel
theorem dX5_show_12 : decode cX5_show 12 = .ok (.invokevirtual 140, 3) := by decide +kernel
theorem dX5_show_15 : decode cX5_show 15 = .ok (.ireturn, 1) := by decide +kernel
theorem dX5_gossip_0 : decode cX5_gossip 0 = .ok (.aload_n 0, 1) := by decide +kernel
theorem dX5_gossip_1 : decode cX5_gossip 1 = .ok (.iload_n 1, 1) := by decide +kernel
theorem dX5_gossip_2 : decode cX5_gossip 2 = .ok (.invokevirtual 136, 3) := by decide +kernel
theorem dX5_gossip_5 : decode cX5_gossip 5 = .ok (.astore_n 3, 1) := by decide +kernel
theorem dX5_gossip_6 : decode cX5_gossip 6 = .ok (.aload_n 0, 1) := by decide +kernel
theorem dX5_gossip_7 : decode cX5_gossip 7 = .ok (.iload_n 2, 1) := by decide +kernel
theorem dX5_gossip_8 : decode cX5_gossip 8 = .ok (.invokevirtual 136, 3) := by decide +kernel
theorem dX5_gossip_11 : decode cX5_gossip 11 = .ok (.astore 4, 2) := by decide +kernel
theorem dX5_gossip_13 : decode cX5_gossip 13 = .ok (.iload_n 1, 1) := by decide +kernel
theorem dX5_gossip_14 : decode cX5_gossip 14 = .ok (.iload_n 2, 1) := by decide +kernel
theorem dX5_gossip_15 : decode cX5_gossip 15 = .ok (.if_icmp .eq 12, 3) := by decide +kernel
theorem dX5_gossip_18 : decode cX5_gossip 18 = .ok (.aload_n 3, 1) := by decide +kernel
theorem dX5_gossip_19 : decode cX5_gossip 19 = .ok (.aload 4, 2) := by decide +kernel
theorem dX5_gossip_21 : decode cX5_gossip 21 = .ok (.invokevirtual 144, 3) := by decide +kernel
theorem dX5_gossip_24 : decode cX5_gossip 24 = .ok (.ifCond .eq 7, 3) := by decide +kernel
theorem dX5_gossip_27 : decode cX5_gossip 27 = .ok (.iconst 1, 1) := by decide +kernel
theorem dX5_gossip_28 : decode cX5_gossip 28 = .ok (.goto 4, 3) := by decide +kernel
theorem dX5_gossip_31 : decode cX5_gossip 31 = .ok (.iconst 0, 1) := by decide +kernel
theorem dX5_gossip_32 : decode cX5_gossip 32 = .ok (.istore 5, 2) := by decide +kernel
theorem dX5_gossip_34 : decode cX5_gossip 34 = .ok (.iload 5, 2) := by decide +kernel
theorem dX5_gossip_36 : decode cX5_gossip 36 = .ok (.ifCond .ne 14, 3) := by decide +kernel
theorem dX5_gossip_39 : decode cX5_gossip 39 = .ok (.aload_n 3, 1) := by decide +kernel
theorem dX5_gossip_40 : decode cX5_gossip 40 = .ok (.iconst 1, 1) := by decide +kernel
theorem dX5_gossip_41 : decode cX5_gossip 41 = .ok (.putfield 148, 3) := by decide +kernel
theorem dX5_gossip_44 : decode cX5_gossip 44 = .ok (.aload 4, 2) := by decide +kernel
theorem dX5_gossip_46 : decode cX5_gossip 46 = .ok (.iconst 1, 1) := by decide +kernel
theorem dX5_gossip_47 : decode cX5_gossip 47 = .ok (.putfield 148, 3) := by decide +kernel
theorem dX5_gossip_50 : decode cX5_gossip 50 = .ok (.iload 5, 2) := by decide +kernel
theorem dX5_gossip_52 : decode cX5_gossip 52 = .ok (.ireturn, 1) := by decide +kernel
theorem dX5_follow_0 : decode cX5_follow 0 = .ok (.aload_n 0, 1) := by decide +kernel
theorem dX5_follow_1 : decode cX5_follow 1 = .ok (.iload_n 1, 1) := by decide +kernel
theorem dX5_follow_2 : decode cX5_follow 2 = .ok (.invokevirtual 136, 3) := by decide +kernel
theorem dX5_follow_5 : decode cX5_follow 5 = .ok (.astore_n 3, 1) := by decide +kernel
theorem dX5_follow_6 : decode cX5_follow 6 = .ok (.iload_n 2, 1) := by decide +kernel
theorem dX5_follow_7 : decode cX5_follow 7 = .ok (.iconst 0, 1) := by decide +kernel
theorem dX5_follow_8 : decode cX5_follow 8 = .ok (.ldc 45, 2) := by decide +kernel
theorem dX5_follow_10 : decode cX5_follow 10 = .ok (.invokestatic 46, 3) := by decide +kernel
theorem dX5_follow_13 : decode cX5_follow 13 = .ok (.aload_n 3, 1) := by decide +kernel
theorem dX5_follow_14 : decode cX5_follow 14 = .ok (.iload_n 2, 1) := by decide +kernel
theorem dX5_follow_15 : decode cX5_follow 15 = .ok (.putfield 152, 3) := by decide +kernel
theorem dX5_follow_18 : decode cX5_follow 18 = .ok (.aload_n 3, 1) := by decide +kernel
theorem dX5_follow_19 : decode cX5_follow 19 = .ok (.iconst 0, 1) := by decide +kernel
theorem dX5_follow_20 : decode cX5_follow 20 = .ok (.putfield 155, 3) := by decide +kernel
theorem dX5_follow_23 : decode cX5_follow 23 = .ok (.return_, 1) := by decide +kernel
theorem dX5_isAlarmed_0 : decode cX5_isAlarmed 0 = .ok (.aload_n 0, 1) := by decide +kernel
theorem dX5_isAlarmed_1 : decode cX5_isAlarmed 1 = .ok (.iload_n 1, 1) := by decide +kernel
theorem dX5_isAlarmed_2 : decode cX5_isAlarmed 2 = .ok (.invokevirtual 136, 3) := by decide +kernel
theorem dX5_isAlarmed_5 : decode cX5_isAlarmed 5 = .ok (.getfield 148, 3) := by decide +kernel
theorem dX5_isAlarmed_8 : decode cX5_isAlarmed 8 = .ok (.ireturn, 1) := by decide +kernel
theorem dX5_keptSize_0 : decode cX5_keptSize 0 = .ok (.aload_n 0, 1) := by decide +kernel
theorem dX5_keptSize_1 : decode cX5_keptSize 1 = .ok (.iload_n 1, 1) := by decide +kernel
theorem dX5_keptSize_2 : decode cX5_keptSize 2 = .ok (.invokevirtual 136, 3) := by decide +kernel
theorem dX5_keptSize_5 : decode cX5_keptSize 5 = .ok (.getfield 158, 3) := by decide +kernel
theorem dX5_keptSize_8 : decode cX5_keptSize 8 = .ok (.ireturn, 1) := by decide +kernel
theorem dX5_keptRoot_0 : decode cX5_keptRoot 0 = .ok (.aload_n 0, 1) := by decide +kernel
theorem dX5_keptRoot_1 : decode cX5_keptRoot 1 = .ok (.iload_n 1, 1) := by decide +kernel
theorem dX5_keptRoot_2 : decode cX5_keptRoot 2 = .ok (.invokevirtual 136, 3) := by decide +kernel
theorem dX5_keptRoot_5 : decode cX5_keptRoot 5 = .ok (.getfield 161, 3) := by decide +kernel
theorem dX5_keptRoot_8 : decode cX5_keptRoot 8 = .ok (.ireturn, 1) := by decide +kernel
theorem dX5_counted_0 : decode cX5_counted 0 = .ok (.aload_n 0, 1) := by decide +kernel
theorem dX5_counted_1 : decode cX5_counted 1 = .ok (.iload_n 1, 1) := by decide +kernel
theorem dX5_counted_2 : decode cX5_counted 2 = .ok (.invokevirtual 136, 3) := by decide +kernel
theorem dX5_counted_5 : decode cX5_counted 5 = .ok (.getfield 155, 3) := by decide +kernel
theorem dX5_counted_8 : decode cX5_counted 8 = .ok (.ireturn, 1) := by decide +kernel
theorem dX5_viewNumbered_0 : decode cX5_viewNumbered 0 = .ok (.iload_n 1, 1) := by decide +kernel
theorem dX5_viewNumbered_1 : decode cX5_viewNumbered 1 = .ok (.ifCond .lt 21, 3) := by decide +kernel
theorem dX5_viewNumbered_4 : decode cX5_viewNumbered 4 = .ok (.iload_n 1, 1) := by decide +kernel
theorem dX5_viewNumbered_5 : decode cX5_viewNumbered 5 = .ok (.aload_n 0, 1) := by decide +kernel
theorem dX5_viewNumbered_6 : decode cX5_viewNumbered 6 = .ok (.getfield 11, 3) := by decide +kernel
theorem dX5_viewNumbered_9 : decode cX5_viewNumbered 9 = .ok (.arraylength, 1) := by decide +kernel
theorem dX5_viewNumbered_10 : decode cX5_viewNumbered 10 = .ok (.if_icmp .ge 12, 3) := by decide +kernel
theorem dX5_viewNumbered_13 : decode cX5_viewNumbered 13 = .ok (.aload_n 0, 1) := by decide +kernel
theorem dX5_viewNumbered_14 : decode cX5_viewNumbered 14 = .ok (.getfield 11, 3) := by decide +kernel
theorem dX5_viewNumbered_17 : decode cX5_viewNumbered 17 = .ok (.iload_n 1, 1) := by decide +kernel
theorem dX5_viewNumbered_18 : decode cX5_viewNumbered 18 = .ok (.aaload, 1) := by decide +kernel
theorem dX5_viewNumbered_19 : decode cX5_viewNumbered 19 = .ok (.goto 4, 3) := by decide +kernel
theorem dX5_viewNumbered_22 : decode cX5_viewNumbered 22 = .ok (.aconst_null, 1) := by decide +kernel
theorem dX5_viewNumbered_23 : decode cX5_viewNumbered 23 = .ok (.astore_n 2, 1) := by decide +kernel
theorem dX5_viewNumbered_24 : decode cX5_viewNumbered 24 = .ok (.aload_n 2, 1) := by decide +kernel
theorem dX5_viewNumbered_25 : decode cX5_viewNumbered 25 = .ok (.ifnonnull 13, 3) := by decide +kernel
theorem dX5_viewNumbered_28 : decode cX5_viewNumbered 28 = .ok (.new 72, 3) := by decide +kernel
theorem dX5_viewNumbered_31 : decode cX5_viewNumbered 31 = .ok (.dup, 1) := by decide +kernel
theorem dX5_viewNumbered_32 : decode cX5_viewNumbered 32 = .ok (.ldc 164, 2) := by decide +kernel
theorem dX5_viewNumbered_34 : decode cX5_viewNumbered 34 = .ok (.invokespecial 76, 3) := by decide +kernel
theorem dX5_viewNumbered_37 : decode cX5_viewNumbered 37 = .ok (.athrow, 1) := by decide +kernel
theorem dX5_viewNumbered_38 : decode cX5_viewNumbered 38 = .ok (.aload_n 2, 1) := by decide +kernel
theorem dX5_viewNumbered_39 : decode cX5_viewNumbered 39 = .ok (.areturn, 1) := by decide +kernel
theorem dX5_watcherNumbered_0 : decode cX5_watcherNumbered 0 = .ok (.iload_n 1, 1) := by decide +kernel
theorem dX5_watcherNumbered_1 : decode cX5_watcherNumbered 1 = .ok (.ifCond .lt 21, 3) := by decide +kernel
theorem dX5_watcherNumbered_4 : decode cX5_watcherNumbered 4 = .ok (.iload_n 1, 1) := by decide +kernel
theorem dX5_watcherNumbered_5 : decode cX5_watcherNumbered 5 = .ok (.aload_n 0, 1) := by decide +kernel
theorem dX5_watcherNumbered_6 : decode cX5_watcherNumbered 6 = .ok (.getfield 17, 3) := by decide +kernel
theorem dX5_watcherNumbered_9 : decode cX5_watcherNumbered 9 = .ok (.arraylength, 1) := by decide +kernel
theorem dX5_watcherNumbered_10 : decode cX5_watcherNumbered 10 = .ok (.if_icmp .ge 12, 3) := by decide +kernel
theorem dX5_watcherNumbered_13 : decode cX5_watcherNumbered 13 = .ok (.aload_n 0, 1) := by decide +kernel
theorem dX5_watcherNumbered_14 : decode cX5_watcherNumbered 14 = .ok (.getfield 17, 3) := by decide +kernel
theorem dX5_watcherNumbered_17 : decode cX5_watcherNumbered 17 = .ok (.iload_n 1, 1) := by decide +kernel
theorem dX5_watcherNumbered_18 : decode cX5_watcherNumbered 18 = .ok (.aaload, 1) := by decide +kernel
theorem dX5_watcherNumbered_19 : decode cX5_watcherNumbered 19 = .ok (.goto 4, 3) := by decide +kernel
theorem dX5_watcherNumbered_22 : decode cX5_watcherNumbered 22 = .ok (.aconst_null, 1) := by decide +kernel
theorem dX5_watcherNumbered_23 : decode cX5_watcherNumbered 23 = .ok (.astore_n 2, 1) := by decide +kernel
theorem dX5_watcherNumbered_24 : decode cX5_watcherNumbered 24 = .ok (.aload_n 2, 1) := by decide +kernel
theorem dX5_watcherNumbered_25 : decode cX5_watcherNumbered 25 = .ok (.ifnonnull 13, 3) := by decide +kernel
theorem dX5_watcherNumbered_28 : decode cX5_watcherNumbered 28 = .ok (.new 72, 3) := by decide +kernel
theorem dX5_watcherNumbered_31 : decode cX5_watcherNumbered 31 = .ok (.dup, 1) := by decide +kernel
theorem dX5_watcherNumbered_32 : decode cX5_watcherNumbered 32 = .ok (.ldc 166, 2) := by decide +kernel
theorem dX5_watcherNumbered_34 : decode cX5_watcherNumbered 34 = .ok (.invokespecial 76, 3) := by decide +kernel
theorem dX5_watcherNumbered_37 : decode cX5_watcherNumbered 37 = .ok (.athrow, 1) := by decide +kernel
theorem dX5_watcherNumbered_38 : decode cX5_watcherNumbered 38 = .ok (.aload_n 2, 1) := by decide +kernel
theorem dX5_watcherNumbered_39 : decode cX5_watcherNumbered 39 = .ok (.areturn, 1) := by decide +kernel
theorem dX5_requireRange_0 : decode cX5_requireRange 0 = .ok (.iload_n 0, 1) := by decide +kernel
theorem dX5_requireRange_1 : decode cX5_requireRange 1 = .ok (.iload_n 1, 1) := by decide +kernel
theorem dX5_requireRange_2 : decode cX5_requireRange 2 = .ok (.if_icmp .lt 8, 3) := by decide +kernel
theorem dX5_requireRange_5 : decode cX5_requireRange 5 = .ok (.iload_n 0, 1) := by decide +kernel
theorem dX5_requireRange_6 : decode cX5_requireRange 6 = .ok (.iload_n 2, 1) := by decide +kernel
theorem dX5_requireRange_7 : decode cX5_requireRange 7 = .ok (.if_icmp .le 13, 3) := by decide +kernel
theorem dX5_requireRange_10 : decode cX5_requireRange 10 = .ok (.new 168, 3) := by decide +kernel
theorem dX5_requireRange_13 : decode cX5_requireRange 13 = .ok (.dup, 1) := by decide +kernel
theorem dX5_requireRange_14 : decode cX5_requireRange 14 = .ok (.ldc 170, 2) := by decide +kernel
theorem dX5_requireRange_16 : decode cX5_requireRange 16 = .ok (.invokespecial 172, 3) := by decide +kernel
theorem dX5_requireRange_19 : decode cX5_requireRange 19 = .ok (.athrow, 1) := by decide +kernel
theorem dX5_requireRange_20 : decode cX5_requireRange 20 = .ok (.return_, 1) := by decide +kernel
theorem dX5_requireRoom_0 : decode cX5_requireRoom 0 = .ok (.iload_n 1, 1) := by decide +kernel
theorem dX5_requireRoom_1 : decode cX5_requireRoom 1 = .ok (.bipush 100, 2) := by decide +kernel
theorem dX5_requireRoom_3 : decode cX5_requireRoom 3 = .ok (.aload_n 0, 1) := by decide +kernel
theorem dX5_requireRoom_4 : decode cX5_requireRoom 4 = .ok (.getfield 58, 3) := by decide +kernel
theorem dX5_requireRoom_7 : decode cX5_requireRoom 7 = .ok (.isub, 1) := by decide +kernel
theorem dX5_requireRoom_8 : decode cX5_requireRoom 8 = .ok (.if_icmp .le 13, 3) := by decide +kernel
theorem dX5_requireRoom_11 : decode cX5_requireRoom 11 = .ok (.new 61, 3) := by decide +kernel
theorem dX5_requireRoom_14 : decode cX5_requireRoom 14 = .ok (.dup, 1) := by decide +kernel
theorem dX5_requireRoom_15 : decode cX5_requireRoom 15 = .ok (.ldc 173, 2) := by decide +kernel
theorem dX5_requireRoom_17 : decode cX5_requireRoom 17 = .ok (.invokespecial 65, 3) := by decide +kernel
theorem dX5_requireRoom_20 : decode cX5_requireRoom 20 = .ok (.athrow, 1) := by decide +kernel
theorem dX5_requireRoom_21 : decode cX5_requireRoom 21 = .ok (.return_, 1) := by decide +kernel
theorem dX5_leafSum_0 : decode cX5_leafSum 0 = .ok (.ldc2_w 175, 3) := by decide +kernel
theorem dX5_leafSum_3 : decode cX5_leafSum 3 = .ok (.iload_n 0, 1) := by decide +kernel
theorem dX5_leafSum_4 : decode cX5_leafSum 4 = .ok (.i2l, 1) := by decide +kernel
theorem dX5_leafSum_5 : decode cX5_leafSum 5 = .ok (.lmul, 1) := by decide +kernel
theorem dX5_leafSum_6 : decode cX5_leafSum 6 = .ok (.ldc2_w 177, 3) := by decide +kernel
theorem dX5_leafSum_9 : decode cX5_leafSum 9 = .ok (.ladd, 1) := by decide +kernel
theorem dX5_leafSum_10 : decode cX5_leafSum 10 = .ok (.ldc2_w 179, 3) := by decide +kernel
theorem dX5_leafSum_13 : decode cX5_leafSum 13 = .ok (.lrem, 1) := by decide +kernel
theorem dX5_leafSum_14 : decode cX5_leafSum 14 = .ok (.l2i, 1) := by decide +kernel
theorem dX5_leafSum_15 : decode cX5_leafSum 15 = .ok (.ireturn, 1) := by decide +kernel
theorem dX5_mix_0 : decode cX5_mix 0 = .ok (.ldc2_w 181, 3) := by decide +kernel
theorem dX5_mix_3 : decode cX5_mix 3 = .ok (.iload_n 0, 1) := by decide +kernel
theorem dX5_mix_4 : decode cX5_mix 4 = .ok (.i2l, 1) := by decide +kernel
theorem dX5_mix_5 : decode cX5_mix 5 = .ok (.lmul, 1) := by decide +kernel
theorem dX5_mix_6 : decode cX5_mix 6 = .ok (.ldc2_w 183, 3) := by decide +kernel
theorem dX5_mix_9 : decode cX5_mix 9 = .ok (.iload_n 1, 1) := by decide +kernel
theorem dX5_mix_10 : decode cX5_mix 10 = .ok (.i2l, 1) := by decide +kernel
theorem dX5_mix_11 : decode cX5_mix 11 = .ok (.lmul, 1) := by decide +kernel
theorem dX5_mix_12 : decode cX5_mix 12 = .ok (.ladd, 1) := by decide +kernel
theorem dX5_mix_13 : decode cX5_mix 13 = .ok (.ldc2_w 185, 3) := by decide +kernel
theorem dX5_mix_16 : decode cX5_mix 16 = .ok (.ladd, 1) := by decide +kernel
theorem dX5_mix_17 : decode cX5_mix 17 = .ok (.ldc2_w 179, 3) := by decide +kernel
theorem dX5_mix_20 : decode cX5_mix 20 = .ok (.lrem, 1) := by decide +kernel
theorem dX5_mix_21 : decode cX5_mix 21 = .ok (.l2i, 1) := by decide +kernel
theorem dX5_mix_22 : decode cX5_mix 22 = .ok (.ireturn, 1) := by decide +kernel
theorem dX5_keySum_0 : decode cX5_keySum 0 = .ok (.iload_n 0, 1) := by decide +kernel
theorem dX5_keySum_1 : decode cX5_keySum 1 = .ok (.iconst (-1), 1) := by decide +kernel
theorem dX5_keySum_2 : decode cX5_keySum 2 = .ok (.if_icmp .ne 7, 3) := by decide +kernel
theorem dX5_keySum_5 : decode cX5_keySum 5 = .ok (.iconst 0, 1) := by decide +kernel
theorem dX5_keySum_6 : decode cX5_keySum 6 = .ok (.goto 9, 3) := by decide +kernel
theorem dX5_keySum_9 : decode cX5_keySum 9 = .ok (.iload_n 0, 1) := by decide +kernel
theorem dX5_keySum_10 : decode cX5_keySum 10 = .ok (.iconst 1, 1) := by decide +kernel
theorem dX5_keySum_11 : decode cX5_keySum 11 = .ok (.iadd, 1) := by decide +kernel
theorem dX5_keySum_12 : decode cX5_keySum 12 = .ok (.invokestatic 187, 3) := by decide +kernel
theorem dX5_keySum_15 : decode cX5_keySum 15 = .ok (.ireturn, 1) := by decide +kernel
theorem dX5_mapMix_0 : decode cX5_mapMix 0 = .ok (.iload_n 0, 1) := by decide +kernel
theorem dX5_mapMix_1 : decode cX5_mapMix 1 = .ok (.ifCond .ne 11, 3) := by decide +kernel
theorem dX5_mapMix_4 : decode cX5_mapMix 4 = .ok (.iload_n 1, 1) := by decide +kernel
theorem dX5_mapMix_5 : decode cX5_mapMix 5 = .ok (.ifCond .ne 7, 3) := by decide +kernel
theorem dX5_mapMix_8 : decode cX5_mapMix 8 = .ok (.iconst 0, 1) := by decide +kernel
theorem dX5_mapMix_9 : decode cX5_mapMix 9 = .ok (.goto 8, 3) := by decide +kernel
theorem dX5_mapMix_12 : decode cX5_mapMix 12 = .ok (.iload_n 0, 1) := by decide +kernel
theorem dX5_mapMix_13 : decode cX5_mapMix 13 = .ok (.iload_n 1, 1) := by decide +kernel
theorem dX5_mapMix_14 : decode cX5_mapMix 14 = .ok (.invokestatic 190, 3) := by decide +kernel
theorem dX5_mapMix_17 : decode cX5_mapMix 17 = .ok (.ireturn, 1) := by decide +kernel
end
section
theorem dX6_init_0 : decode cX6_init 0 = .ok (.aload_n 0, 1) := by decide +kernel
theorem dX6_init_1 : decode cX6_init 1 = .ok (.invokespecial 1, 3) := by decide +kernel
theorem dX6_init_4 : decode cX6_init 4 = .ok (.aload_n 0, 1) := by decide +kernel
theorem dX6_init_5 : decode cX6_init 5 = .ok (.sipush 300, 3) := by decide +kernel
theorem dX6_init_8 : decode cX6_init 8 = .ok (.newarray .int, 2) := by decide +kernel
theorem dX6_init_10 : decode cX6_init 10 = .ok (.putfield 7, 3) := by decide +kernel
theorem dX6_init_13 : decode cX6_init 13 = .ok (.aload_n 0, 1) := by decide +kernel
theorem dX6_init_14 : decode cX6_init 14 = .ok (.iconst 3, 1) := by decide +kernel
theorem dX6_init_15 : decode cX6_init 15 = .ok (.newarray .int, 2) := by decide +kernel
theorem dX6_init_17 : decode cX6_init 17 = .ok (.putfield 13, 3) := by decide +kernel
theorem dX6_init_20 : decode cX6_init 20 = .ok (.aload_n 0, 1) := by decide +kernel
theorem dX6_init_21 : decode cX6_init 21 = .ok (.iconst 1, 1) := by decide +kernel
theorem dX6_init_22 : decode cX6_init 22 = .ok (.putfield 16, 3) := by decide +kernel
theorem dX6_init_25 : decode cX6_init 25 = .ok (.aload_n 0, 1) := by decide +kernel
theorem dX6_init_26 : decode cX6_init 26 = .ok (.bipush 8, 2) := by decide +kernel
theorem dX6_init_28 : decode cX6_init 28 = .ok (.newarray .int, 2) := by decide +kernel
theorem dX6_init_30 : decode cX6_init 30 = .ok (.putfield 20, 3) := by decide +kernel
theorem dX6_init_33 : decode cX6_init 33 = .ok (.aload_n 0, 1) := by decide +kernel
theorem dX6_init_34 : decode cX6_init 34 = .ok (.bipush 8, 2) := by decide +kernel
theorem dX6_init_36 : decode cX6_init 36 = .ok (.newarray .int, 2) := by decide +kernel
theorem dX6_init_38 : decode cX6_init 38 = .ok (.putfield 23, 3) := by decide +kernel
theorem dX6_init_41 : decode cX6_init 41 = .ok (.aload_n 0, 1) := by decide +kernel
theorem dX6_init_42 : decode cX6_init 42 = .ok (.bipush 12, 2) := by decide +kernel
theorem dX6_init_44 : decode cX6_init 44 = .ok (.newarray .int, 2) := by decide +kernel
theorem dX6_init_46 : decode cX6_init 46 = .ok (.putfield 26, 3) := by decide +kernel
theorem dX6_init_49 : decode cX6_init 49 = .ok (.aload_n 0, 1) := by decide +kernel
theorem dX6_init_50 : decode cX6_init 50 = .ok (.bipush 12, 2) := by decide +kernel
theorem dX6_init_52 : decode cX6_init 52 = .ok (.newarray .int, 2) := by decide +kernel
theorem dX6_init_54 : decode cX6_init 54 = .ok (.putfield 29, 3) := by decide +kernel
theorem dX6_init_57 : decode cX6_init 57 = .ok (.aload_n 0, 1) := by decide +kernel
theorem dX6_init_58 : decode cX6_init 58 = .ok (.bipush 12, 2) := by decide +kernel
theorem dX6_init_60 : decode cX6_init 60 = .ok (.newarray .boolean, 2) := by decide +kernel
theorem dX6_init_62 : decode cX6_init 62 = .ok (.putfield 32, 3) := by decide +kernel
theorem dX6_init_65 : decode cX6_init 65 = .ok (.aload_n 0, 1) := by decide +kernel
theorem dX6_init_66 : decode cX6_init 66 = .ok (.bipush 64, 2) := by decide +kernel
theorem dX6_init_68 : decode cX6_init 68 = .ok (.newarray .int, 2) := by decide +kernel
theorem dX6_init_70 : decode cX6_init 70 = .ok (.putfield 36, 3) := by decide +kernel
theorem dX6_init_73 : decode cX6_init 73 = .ok (.aload_n 0, 1) := by decide +kernel
theorem dX6_init_74 : decode cX6_init 74 = .ok (.bipush 64, 2) := by decide +kernel
theorem dX6_init_76 : decode cX6_init 76 = .ok (.newarray .int, 2) := by decide +kernel
theorem dX6_init_78 : decode cX6_init 78 = .ok (.putfield 39, 3) := by decide +kernel
theorem dX6_init_81 : decode cX6_init 81 = .ok (.aload_n 0, 1) := by decide +kernel
theorem dX6_init_82 : decode cX6_init 82 = .ok (.iconst 4, 1) := by decide +kernel
theorem dX6_init_83 : decode cX6_init 83 = .ok (.newarray .int, 2) := by decide +kernel
theorem dX6_init_85 : decode cX6_init 85 = .ok (.putfield 42, 3) := by decide +kernel
theorem dX6_init_88 : decode cX6_init 88 = .ok (.aload_n 0, 1) := by decide +kernel
theorem dX6_init_89 : decode cX6_init 89 = .ok (.iconst 4, 1) := by decide +kernel
theorem dX6_init_90 : decode cX6_init 90 = .ok (.newarray .int, 2) := by decide +kernel
theorem dX6_init_92 : decode cX6_init 92 = .ok (.putfield 45, 3) := by decide +kernel
theorem dX6_init_95 : decode cX6_init 95 = .ok (.aload_n 0, 1) := by decide +kernel
theorem dX6_init_96 : decode cX6_init 96 = .ok (.iconst 4, 1) := by decide +kernel
theorem dX6_init_97 : decode cX6_init 97 = .ok (.newarray .int, 2) := by decide +kernel
theorem dX6_init_99 : decode cX6_init 99 = .ok (.putfield 48, 3) := by decide +kernel
theorem dX6_init_102 : decode cX6_init 102 = .ok (.aload_n 0, 1) := by decide +kernel
theorem dX6_init_103 : decode cX6_init 103 = .ok (.iconst 4, 1) := by decide +kernel
theorem dX6_init_104 : decode cX6_init 104 = .ok (.newarray .boolean, 2) := by decide +kernel
theorem dX6_init_106 : decode cX6_init 106 = .ok (.putfield 51, 3) := by decide +kernel
theorem dX6_init_109 : decode cX6_init 109 = .ok (.aload_n 0, 1) := by decide +kernel
theorem dX6_init_110 : decode cX6_init 110 = .ok (.iconst 4, 1) := by decide +kernel
theorem dX6_init_111 : decode cX6_init 111 = .ok (.newarray .int, 2) := by decide +kernel
theorem dX6_init_113 : decode cX6_init 113 = .ok (.putfield 54, 3) := by decide +kernel
theorem dX6_init_116 : decode cX6_init 116 = .ok (.aload_n 0, 1) := by decide +kernel
theorem dX6_init_117 : decode cX6_init 117 = .ok (.iconst 4, 1) := by decide +kernel
theorem dX6_init_118 : decode cX6_init 118 = .ok (.newarray .int, 2) := by decide +kernel
theorem dX6_init_120 : decode cX6_init 120 = .ok (.putfield 57, 3) := by decide +kernel
theorem dX6_init_123 : decode cX6_init 123 = .ok (.iconst 0, 1) := by decide +kernel
theorem dX6_init_124 : decode cX6_init 124 = .ok (.istore_n 1, 1) := by decide +kernel
theorem dX6_init_125 : decode cX6_init 125 = .ok (.iload_n 1, 1) := by decide +kernel
theorem dX6_init_126 : decode cX6_init 126 = .ok (.bipush 64, 2) := by decide +kernel
theorem dX6_init_128 : decode cX6_init 128 = .ok (.if_icmp .ge 16, 3) := by decide +kernel
theorem dX6_init_131 : decode cX6_init 131 = .ok (.aload_n 0, 1) := by decide +kernel
theorem dX6_init_132 : decode cX6_init 132 = .ok (.getfield 36, 3) := by decide +kernel
theorem dX6_init_135 : decode cX6_init 135 = .ok (.iload_n 1, 1) := by decide +kernel
theorem dX6_init_136 : decode cX6_init 136 = .ok (.iconst (-1), 1) := by decide +kernel
theorem dX6_init_137 : decode cX6_init 137 = .ok (.iastore, 1) := by decide +kernel
theorem dX6_init_138 : decode cX6_init 138 = .ok (.iinc 1 1, 3) := by decide +kernel
theorem dX6_init_141 : decode cX6_init 141 = .ok (.goto (-16), 3) := by decide +kernel
theorem dX6_init_144 : decode cX6_init 144 = .ok (.iconst 0, 1) := by decide +kernel
theorem dX6_init_145 : decode cX6_init 145 = .ok (.istore_n 1, 1) := by decide +kernel
theorem dX6_init_146 : decode cX6_init 146 = .ok (.iload_n 1, 1) := by decide +kernel
theorem dX6_init_147 : decode cX6_init 147 = .ok (.iconst 4, 1) := by decide +kernel
theorem dX6_init_148 : decode cX6_init 148 = .ok (.if_icmp .ge 30, 3) := by decide +kernel
theorem dX6_init_151 : decode cX6_init 151 = .ok (.aload_n 0, 1) := by decide +kernel
theorem dX6_init_152 : decode cX6_init 152 = .ok (.getfield 45, 3) := by decide +kernel
theorem dX6_init_155 : decode cX6_init 155 = .ok (.iload_n 1, 1) := by decide +kernel
theorem dX6_init_156 : decode cX6_init 156 = .ok (.iconst (-1), 1) := by decide +kernel
theorem dX6_init_157 : decode cX6_init 157 = .ok (.iastore, 1) := by decide +kernel
theorem dX6_init_158 : decode cX6_init 158 = .ok (.aload_n 0, 1) := by decide +kernel
theorem dX6_init_159 : decode cX6_init 159 = .ok (.getfield 48, 3) := by decide +kernel
theorem dX6_init_162 : decode cX6_init 162 = .ok (.iload_n 1, 1) := by decide +kernel
theorem dX6_init_163 : decode cX6_init 163 = .ok (.iconst (-1), 1) := by decide +kernel
theorem dX6_init_164 : decode cX6_init 164 = .ok (.iastore, 1) := by decide +kernel
theorem dX6_init_165 : decode cX6_init 165 = .ok (.aload_n 0, 1) := by decide +kernel
theorem dX6_init_166 : decode cX6_init 166 = .ok (.getfield 54, 3) := by decide +kernel
theorem dX6_init_169 : decode cX6_init 169 = .ok (.iload_n 1, 1) := by decide +kernel
theorem dX6_init_170 : decode cX6_init 170 = .ok (.iconst (-1), 1) := by decide +kernel
theorem dX6_init_171 : decode cX6_init 171 = .ok (.iastore, 1) := by decide +kernel
theorem dX6_init_172 : decode cX6_init 172 = .ok (.iinc 1 1, 3) := by decide +kernel
theorem dX6_init_175 : decode cX6_init 175 = .ok (.goto (-29), 3) := by decide +kernel
theorem dX6_init_178 : decode cX6_init 178 = .ok (.return_, 1) := by decide +kernel
theorem dX6_thrown_0 : decode cX6_thrown 0 = .ok (.aload_n 0, 1) := by decide +kernel
theorem dX6_thrown_1 : decode cX6_thrown 1 = .ok (.getfield 60, 3) := by decide +kernel
theorem dX6_thrown_4 : decode cX6_thrown 4 = .ok (.ireturn, 1) := by decide +kernel
theorem dX6_goesWell_0 : decode cX6_goesWell 0 = .ok (.aload_n 0, 1) := by decide +kernel
theorem dX6_goesWell_1 : decode cX6_goesWell 1 = .ok (.iload_n 1, 1) := by decide +kernel
theorem dX6_goesWell_2 : decode cX6_goesWell 2 = .ok (.putfield 60, 3) := by decide +kernel
theorem dX6_goesWell_5 : decode cX6_goesWell 5 = .ok (.iload_n 1, 1) := by decide +kernel
theorem dX6_goesWell_6 : decode cX6_goesWell 6 = .ok (.ifCond .ne 7, 3) := by decide +kernel
theorem dX6_goesWell_9 : decode cX6_goesWell 9 = .ok (.iconst 1, 1) := by decide +kernel
theorem dX6_goesWell_10 : decode cX6_goesWell 10 = .ok (.goto 4, 3) := by decide +kernel
theorem dX6_goesWell_13 : decode cX6_goesWell 13 = .ok (.iconst 0, 1) := by decide +kernel
theorem dX6_goesWell_14 : decode cX6_goesWell 14 = .ok (.ireturn, 1) := by decide +kernel
theorem dX6_in_0 : decode cX6_in 0 = .ok (.iload_n 0, 1) := by decide +kernel
theorem dX6_in_1 : decode cX6_in 1 = .ok (.iload_n 1, 1) := by decide +kernel
theorem dX6_in_2 : decode cX6_in 2 = .ok (.if_icmp .lt 12, 3) := by decide +kernel
theorem dX6_in_5 : decode cX6_in 5 = .ok (.iload_n 0, 1) := by decide +kernel
theorem dX6_in_6 : decode cX6_in 6 = .ok (.iload_n 2, 1) := by decide +kernel
theorem dX6_in_7 : decode cX6_in 7 = .ok (.if_icmp .gt 7, 3) := by decide +kernel
theorem dX6_in_10 : decode cX6_in 10 = .ok (.iconst 1, 1) := by decide +kernel
theorem dX6_in_11 : decode cX6_in 11 = .ok (.goto 4, 3) := by decide +kernel
theorem dX6_in_14 : decode cX6_in 14 = .ok (.iconst 0, 1) := by decide +kernel
theorem dX6_in_15 : decode cX6_in 15 = .ok (.ireturn, 1) := by decide +kernel
theorem dX6_isValue_0 : decode cX6_isValue 0 = .ok (.iload_n 0, 1) := by decide +kernel
theorem dX6_isValue_1 : decode cX6_isValue 1 = .ok (.iconst 0, 1) := by decide +kernel
theorem dX6_isValue_2 : decode cX6_isValue 2 = .ok (.ldc 63, 2) := by decide +kernel
theorem dX6_isValue_4 : decode cX6_isValue 4 = .ok (.invokestatic 64, 3) := by decide +kernel
theorem dX6_isValue_7 : decode cX6_isValue 7 = .ok (.ireturn, 1) := by decide +kernel
theorem dX6_isView_0 : decode cX6_isView 0 = .ok (.iload_n 1, 1) := by decide +kernel
theorem dX6_isView_1 : decode cX6_isView 1 = .ok (.iconst 0, 1) := by decide +kernel
theorem dX6_isView_2 : decode cX6_isView 2 = .ok (.aload_n 0, 1) := by decide +kernel
theorem dX6_isView_3 : decode cX6_isView 3 = .ok (.getfield 16, 3) := by decide +kernel
theorem dX6_isView_6 : decode cX6_isView 6 = .ok (.iconst 1, 1) := by decide +kernel
theorem dX6_isView_7 : decode cX6_isView 7 = .ok (.isub, 1) := by decide +kernel
theorem dX6_isView_8 : decode cX6_isView 8 = .ok (.invokestatic 64, 3) := by decide +kernel
theorem dX6_isView_11 : decode cX6_isView 11 = .ok (.ireturn, 1) := by decide +kernel
theorem dX6_leafSum_0 : decode cX6_leafSum 0 = .ok (.ldc2_w 68, 3) := by decide +kernel
theorem dX6_leafSum_3 : decode cX6_leafSum 3 = .ok (.iload_n 0, 1) := by decide +kernel
theorem dX6_leafSum_4 : decode cX6_leafSum 4 = .ok (.i2l, 1) := by decide +kernel
theorem dX6_leafSum_5 : decode cX6_leafSum 5 = .ok (.lmul, 1) := by decide +kernel
theorem dX6_leafSum_6 : decode cX6_leafSum 6 = .ok (.ldc2_w 70, 3) := by decide +kernel
theorem dX6_leafSum_9 : decode cX6_leafSum 9 = .ok (.ladd, 1) := by decide +kernel
theorem dX6_leafSum_10 : decode cX6_leafSum 10 = .ok (.ldc2_w 72, 3) := by decide +kernel
theorem dX6_leafSum_13 : decode cX6_leafSum 13 = .ok (.lrem, 1) := by decide +kernel
theorem dX6_leafSum_14 : decode cX6_leafSum 14 = .ok (.l2i, 1) := by decide +kernel
theorem dX6_leafSum_15 : decode cX6_leafSum 15 = .ok (.ireturn, 1) := by decide +kernel
theorem dX6_mix_0 : decode cX6_mix 0 = .ok (.ldc2_w 74, 3) := by decide +kernel
theorem dX6_mix_3 : decode cX6_mix 3 = .ok (.iload_n 0, 1) := by decide +kernel
theorem dX6_mix_4 : decode cX6_mix 4 = .ok (.i2l, 1) := by decide +kernel
theorem dX6_mix_5 : decode cX6_mix 5 = .ok (.lmul, 1) := by decide +kernel
theorem dX6_mix_6 : decode cX6_mix 6 = .ok (.ldc2_w 76, 3) := by decide +kernel
theorem dX6_mix_9 : decode cX6_mix 9 = .ok (.iload_n 1, 1) := by decide +kernel
theorem dX6_mix_10 : decode cX6_mix 10 = .ok (.i2l, 1) := by decide +kernel
theorem dX6_mix_11 : decode cX6_mix 11 = .ok (.lmul, 1) := by decide +kernel
theorem dX6_mix_12 : decode cX6_mix 12 = .ok (.ladd, 1) := by decide +kernel
theorem dX6_mix_13 : decode cX6_mix 13 = .ok (.ldc2_w 78, 3) := by decide +kernel
theorem dX6_mix_16 : decode cX6_mix 16 = .ok (.ladd, 1) := by decide +kernel
theorem dX6_mix_17 : decode cX6_mix 17 = .ok (.ldc2_w 72, 3) := by decide +kernel
theorem dX6_mix_20 : decode cX6_mix 20 = .ok (.lrem, 1) := by decide +kernel
theorem dX6_mix_21 : decode cX6_mix 21 = .ok (.l2i, 1) := by decide +kernel
theorem dX6_mix_22 : decode cX6_mix 22 = .ok (.ireturn, 1) := by decide +kernel
theorem dX6_append_0 : decode cX6_append 0 = .ok (.aload_n 0, 1) := by decide +kernel
theorem dX6_append_1 : decode cX6_append 1 = .ok (.aload_n 0, 1) := by decide +kernel
theorem dX6_append_2 : decode cX6_append 2 = .ok (.iload_n 1, 1) := by decide +kernel
theorem dX6_append_3 : decode cX6_append 3 = .ok (.invokevirtual 80, 3) := by decide +kernel
theorem dX6_append_6 : decode cX6_append 6 = .ok (.ifCond .ne 7, 3) := by decide +kernel
theorem dX6_append_9 : decode cX6_append 9 = .ok (.iconst 1, 1) := by decide +kernel
theorem dX6_append_10 : decode cX6_append 10 = .ok (.goto 30, 3) := by decide +kernel
theorem dX6_append_13 : decode cX6_append 13 = .ok (.iload_n 2, 1) := by decide +kernel
theorem dX6_append_14 : decode cX6_append 14 = .ok (.invokestatic 84, 3) := by decide +kernel
theorem dX6_append_17 : decode cX6_append 17 = .ok (.ifCond .ne 7, 3) := by decide +kernel
theorem dX6_append_20 : decode cX6_append 20 = .ok (.iconst 2, 1) := by decide +kernel
theorem dX6_append_21 : decode cX6_append 21 = .ok (.goto 19, 3) := by decide +kernel
theorem dX6_append_24 : decode cX6_append 24 = .ok (.aload_n 0, 1) := by decide +kernel
theorem dX6_append_25 : decode cX6_append 25 = .ok (.getfield 13, 3) := by decide +kernel
theorem dX6_append_28 : decode cX6_append 28 = .ok (.iload_n 1, 1) := by decide +kernel
theorem dX6_append_29 : decode cX6_append 29 = .ok (.iaload, 1) := by decide +kernel
theorem dX6_append_30 : decode cX6_append 30 = .ok (.bipush 100, 2) := by decide +kernel
theorem dX6_append_32 : decode cX6_append 32 = .ok (.if_icmp .ne 7, 3) := by decide +kernel
theorem dX6_append_35 : decode cX6_append 35 = .ok (.iconst 3, 1) := by decide +kernel
theorem dX6_append_36 : decode cX6_append 36 = .ok (.goto 4, 3) := by decide +kernel
theorem dX6_append_39 : decode cX6_append 39 = .ok (.iconst 0, 1) := by decide +kernel
theorem dX6_append_40 : decode cX6_append 40 = .ok (.invokevirtual 87, 3) := by decide +kernel
theorem dX6_append_43 : decode cX6_append 43 = .ok (.ifCond .ne 5, 3) := by decide +kernel
theorem dX6_append_46 : decode cX6_append 46 = .ok (.iconst 0, 1) := by decide +kernel
theorem dX6_append_47 : decode cX6_append 47 = .ok (.ireturn, 1) := by decide +kernel
theorem dX6_append_48 : decode cX6_append 48 = .ok (.aload_n 0, 1) := by decide +kernel
theorem dX6_append_49 : decode cX6_append 49 = .ok (.getfield 7, 3) := by decide +kernel
theorem dX6_append_52 : decode cX6_append 52 = .ok (.bipush 100, 2) := by decide +kernel
theorem dX6_append_54 : decode cX6_append 54 = .ok (.iload_n 1, 1) := by decide +kernel
theorem dX6_append_55 : decode cX6_append 55 = .ok (.imul, 1) := by decide +kernel
theorem dX6_append_56 : decode cX6_append 56 = .ok (.aload_n 0, 1) := by decide +kernel
theorem dX6_append_57 : decode cX6_append 57 = .ok (.getfield 13, 3) := by decide +kernel
theorem dX6_append_60 : decode cX6_append 60 = .ok (.iload_n 1, 1) := by decide +kernel
theorem dX6_append_61 : decode cX6_append 61 = .ok (.iaload, 1) := by decide +kernel
theorem dX6_append_62 : decode cX6_append 62 = .ok (.iadd, 1) := by decide +kernel
theorem dX6_append_63 : decode cX6_append 63 = .ok (.iload_n 2, 1) := by decide +kernel
theorem dX6_append_64 : decode cX6_append 64 = .ok (.iastore, 1) := by decide +kernel
theorem dX6_append_65 : decode cX6_append 65 = .ok (.aload_n 0, 1) := by decide +kernel
theorem dX6_append_66 : decode cX6_append 66 = .ok (.getfield 13, 3) := by decide +kernel
theorem dX6_append_69 : decode cX6_append 69 = .ok (.iload_n 1, 1) := by decide +kernel
theorem dX6_append_70 : decode cX6_append 70 = .ok (.dup2, 1) := by decide +kernel
theorem dX6_append_71 : decode cX6_append 71 = .ok (.iaload, 1) := by decide +kernel
theorem dX6_append_72 : decode cX6_append 72 = .ok (.iconst 1, 1) := by decide +kernel
theorem dX6_append_73 : decode cX6_append 73 = .ok (.iadd, 1) := by decide +kernel
theorem dX6_append_74 : decode cX6_append 74 = .ok (.iastore, 1) := by decide +kernel
theorem dX6_append_75 : decode cX6_append 75 = .ok (.aload_n 0, 1) := by decide +kernel
theorem dX6_append_76 : decode cX6_append 76 = .ok (.getfield 13, 3) := by decide +kernel
theorem dX6_append_79 : decode cX6_append 79 = .ok (.iload_n 1, 1) := by decide +kernel
theorem dX6_append_80 : decode cX6_append 80 = .ok (.iaload, 1) := by decide +kernel
theorem dX6_append_81 : decode cX6_append 81 = .ok (.iconst 1, 1) := by decide +kernel
theorem dX6_append_82 : decode cX6_append 82 = .ok (.isub, 1) := by decide +kernel
theorem dX6_append_83 : decode cX6_append 83 = .ok (.ireturn, 1) := by decide +kernel
theorem dX6_appendRow_0 : decode cX6_appendRow 0 = .ok (.iload_n 2, 1) := by decide +kernel
theorem dX6_appendRow_1 : decode cX6_appendRow 1 = .ok (.invokestatic 84, 3) := by decide +kernel
theorem dX6_appendRow_4 : decode cX6_appendRow 4 = .ok (.ifCond .eq 28, 3) := by decide +kernel
theorem dX6_appendRow_7 : decode cX6_appendRow 7 = .ok (.iload_n 3, 1) := by decide +kernel
theorem dX6_appendRow_8 : decode cX6_appendRow 8 = .ok (.iconst 1, 1) := by decide +kernel
theorem dX6_appendRow_9 : decode cX6_appendRow 9 = .ok (.bipush 40, 2) := by decide +kernel
theorem dX6_appendRow_11 : decode cX6_appendRow 11 = .ok (.invokestatic 64, 3) := by decide +kernel
theorem dX6_appendRow_14 : decode cX6_appendRow 14 = .ok (.ifCond .eq 18, 3) := by decide +kernel
theorem dX6_appendRow_17 : decode cX6_appendRow 17 = .ok (.iload_n 2, 1) := by decide +kernel
theorem dX6_appendRow_18 : decode cX6_appendRow 18 = .ok (.iload_n 3, 1) := by decide +kernel
theorem dX6_appendRow_19 : decode cX6_appendRow 19 = .ok (.iadd, 1) := by decide +kernel
theorem dX6_appendRow_20 : decode cX6_appendRow 20 = .ok (.iconst 1, 1) := by decide +kernel
theorem dX6_appendRow_21 : decode cX6_appendRow 21 = .ok (.isub, 1) := by decide +kernel
theorem dX6_appendRow_22 : decode cX6_appendRow 22 = .ok (.invokestatic 84, 3) := by decide +kernel
theorem dX6_appendRow_25 : decode cX6_appendRow 25 = .ok (.ifCond .eq 7, 3) := by decide +kernel
theorem dX6_appendRow_28 : decode cX6_appendRow 28 = .ok (.iconst 1, 1) := by decide +kernel
theorem dX6_appendRow_29 : decode cX6_appendRow 29 = .ok (.goto 4, 3) := by decide +kernel
theorem dX6_appendRow_32 : decode cX6_appendRow 32 = .ok (.iconst 0, 1) := by decide +kernel
theorem dX6_appendRow_33 : decode cX6_appendRow 33 = .ok (.istore 4, 2) := by decide +kernel
theorem dX6_appendRow_35 : decode cX6_appendRow 35 = .ok (.aload_n 0, 1) := by decide +kernel
theorem dX6_appendRow_36 : decode cX6_appendRow 36 = .ok (.aload_n 0, 1) := by decide +kernel
theorem dX6_appendRow_37 : decode cX6_appendRow 37 = .ok (.iload_n 1, 1) := by decide +kernel
theorem dX6_appendRow_38 : decode cX6_appendRow 38 = .ok (.invokevirtual 80, 3) := by decide +kernel
theorem dX6_appendRow_41 : decode cX6_appendRow 41 = .ok (.ifCond .ne 7, 3) := by decide +kernel
theorem dX6_appendRow_44 : decode cX6_appendRow 44 = .ok (.iconst 1, 1) := by decide +kernel
theorem dX6_appendRow_45 : decode cX6_appendRow 45 = .ok (.goto 30, 3) := by decide +kernel
theorem dX6_appendRow_48 : decode cX6_appendRow 48 = .ok (.iload 4, 2) := by decide +kernel
theorem dX6_appendRow_50 : decode cX6_appendRow 50 = .ok (.ifCond .ne 7, 3) := by decide +kernel
theorem dX6_appendRow_53 : decode cX6_appendRow 53 = .ok (.iconst 2, 1) := by decide +kernel
theorem dX6_appendRow_54 : decode cX6_appendRow 54 = .ok (.goto 21, 3) := by decide +kernel
theorem dX6_appendRow_57 : decode cX6_appendRow 57 = .ok (.aload_n 0, 1) := by decide +kernel
theorem dX6_appendRow_58 : decode cX6_appendRow 58 = .ok (.getfield 13, 3) := by decide +kernel
theorem dX6_appendRow_61 : decode cX6_appendRow 61 = .ok (.iload_n 1, 1) := by decide +kernel
theorem dX6_appendRow_62 : decode cX6_appendRow 62 = .ok (.iaload, 1) := by decide +kernel
theorem dX6_appendRow_63 : decode cX6_appendRow 63 = .ok (.iload_n 3, 1) := by decide +kernel
theorem dX6_appendRow_64 : decode cX6_appendRow 64 = .ok (.iadd, 1) := by decide +kernel
theorem dX6_appendRow_65 : decode cX6_appendRow 65 = .ok (.bipush 100, 2) := by decide +kernel
theorem dX6_appendRow_67 : decode cX6_appendRow 67 = .ok (.if_icmp .le 7, 3) := by decide +kernel
theorem dX6_appendRow_70 : decode cX6_appendRow 70 = .ok (.iconst 3, 1) := by decide +kernel
theorem dX6_appendRow_71 : decode cX6_appendRow 71 = .ok (.goto 4, 3) := by decide +kernel
theorem dX6_appendRow_74 : decode cX6_appendRow 74 = .ok (.iconst 0, 1) := by decide +kernel
theorem dX6_appendRow_75 : decode cX6_appendRow 75 = .ok (.invokevirtual 87, 3) := by decide +kernel
theorem dX6_appendRow_78 : decode cX6_appendRow 78 = .ok (.ifCond .ne 5, 3) := by decide +kernel
theorem dX6_appendRow_81 : decode cX6_appendRow 81 = .ok (.iconst 0, 1) := by decide +kernel
theorem dX6_appendRow_82 : decode cX6_appendRow 82 = .ok (.ireturn, 1) := by decide +kernel
theorem dX6_appendRow_83 : decode cX6_appendRow 83 = .ok (.iconst 0, 1) := by decide +kernel
theorem dX6_appendRow_84 : decode cX6_appendRow 84 = .ok (.istore 5, 2) := by decide +kernel
theorem dX6_appendRow_86 : decode cX6_appendRow 86 = .ok (.iload 5, 2) := by decide +kernel
theorem dX6_appendRow_88 : decode cX6_appendRow 88 = .ok (.iload_n 3, 1) := by decide +kernel
theorem dX6_appendRow_89 : decode cX6_appendRow 89 = .ok (.if_icmp .ge 39, 3) := by decide +kernel
theorem dX6_appendRow_92 : decode cX6_appendRow 92 = .ok (.aload_n 0, 1) := by decide +kernel
theorem dX6_appendRow_93 : decode cX6_appendRow 93 = .ok (.getfield 7, 3) := by decide +kernel
theorem dX6_appendRow_96 : decode cX6_appendRow 96 = .ok (.bipush 100, 2) := by decide +kernel
theorem dX6_appendRow_98 : decode cX6_appendRow 98 = .ok (.iload_n 1, 1) := by decide +kernel
theorem dX6_appendRow_99 : decode cX6_appendRow 99 = .ok (.imul, 1) := by decide +kernel
theorem dX6_appendRow_100 : decode cX6_appendRow 100 = .ok (.aload_n 0, 1) := by decide +kernel
theorem dX6_appendRow_101 : decode cX6_appendRow 101 = .ok (.getfield 13, 3) := by decide +kernel
theorem dX6_appendRow_104 : decode cX6_appendRow 104 = .ok (.iload_n 1, 1) := by decide +kernel
theorem dX6_appendRow_105 : decode cX6_appendRow 105 = .ok (.iaload, 1) := by decide +kernel
theorem dX6_appendRow_106 : decode cX6_appendRow 106 = .ok (.iadd, 1) := by decide +kernel
theorem dX6_appendRow_107 : decode cX6_appendRow 107 = .ok (.iload_n 2, 1) := by decide +kernel
theorem dX6_appendRow_108 : decode cX6_appendRow 108 = .ok (.iload 5, 2) := by decide +kernel
theorem dX6_appendRow_110 : decode cX6_appendRow 110 = .ok (.iadd, 1) := by decide +kernel
theorem dX6_appendRow_111 : decode cX6_appendRow 111 = .ok (.iastore, 1) := by decide +kernel
theorem dX6_appendRow_112 : decode cX6_appendRow 112 = .ok (.aload_n 0, 1) := by decide +kernel
theorem dX6_appendRow_113 : decode cX6_appendRow 113 = .ok (.getfield 13, 3) := by decide +kernel
theorem dX6_appendRow_116 : decode cX6_appendRow 116 = .ok (.iload_n 1, 1) := by decide +kernel
theorem dX6_appendRow_117 : decode cX6_appendRow 117 = .ok (.dup2, 1) := by decide +kernel
theorem dX6_appendRow_118 : decode cX6_appendRow 118 = .ok (.iaload, 1) := by decide +kernel
theorem dX6_appendRow_119 : decode cX6_appendRow 119 = .ok (.iconst 1, 1) := by decide +kernel
theorem dX6_appendRow_120 : decode cX6_appendRow 120 = .ok (.iadd, 1) := by decide +kernel
theorem dX6_appendRow_121 : decode cX6_appendRow 121 = .ok (.iastore, 1) := by decide +kernel
theorem dX6_appendRow_122 : decode cX6_appendRow 122 = .ok (.iinc 5 1, 3) := by decide +kernel
theorem dX6_appendRow_125 : decode cX6_appendRow 125 = .ok (.goto (-39), 3) := by decide +kernel
theorem dX6_appendRow_128 : decode cX6_appendRow 128 = .ok (.aload_n 0, 1) := by decide +kernel
theorem dX6_appendRow_129 : decode cX6_appendRow 129 = .ok (.getfield 13, 3) := by decide +kernel
theorem dX6_appendRow_132 : decode cX6_appendRow 132 = .ok (.iload_n 1, 1) := by decide +kernel
theorem dX6_appendRow_133 : decode cX6_appendRow 133 = .ok (.iaload, 1) := by decide +kernel
theorem dX6_appendRow_134 : decode cX6_appendRow 134 = .ok (.ireturn, 1) := by decide +kernel
theorem dX6_fork_0 : decode cX6_fork 0 = .ok (.aload_n 0, 1) := by decide +kernel
theorem dX6_fork_1 : decode cX6_fork 1 = .ok (.aload_n 0, 1) := by decide +kernel
theorem dX6_fork_2 : decode cX6_fork 2 = .ok (.iload_n 1, 1) := by decide +kernel
theorem dX6_fork_3 : decode cX6_fork 3 = .ok (.invokevirtual 80, 3) := by decide +kernel
theorem dX6_fork_6 : decode cX6_fork 6 = .ok (.ifCond .ne 7, 3) := by decide +kernel
theorem dX6_fork_9 : decode cX6_fork 9 = .ok (.iconst 1, 1) := by decide +kernel
theorem dX6_fork_10 : decode cX6_fork 10 = .ok (.goto 34, 3) := by decide +kernel
theorem dX6_fork_13 : decode cX6_fork 13 = .ok (.iload_n 2, 1) := by decide +kernel
theorem dX6_fork_14 : decode cX6_fork 14 = .ok (.iconst 0, 1) := by decide +kernel
theorem dX6_fork_15 : decode cX6_fork 15 = .ok (.aload_n 0, 1) := by decide +kernel
theorem dX6_fork_16 : decode cX6_fork 16 = .ok (.getfield 13, 3) := by decide +kernel
theorem dX6_fork_19 : decode cX6_fork 19 = .ok (.iload_n 1, 1) := by decide +kernel
theorem dX6_fork_20 : decode cX6_fork 20 = .ok (.iaload, 1) := by decide +kernel
theorem dX6_fork_21 : decode cX6_fork 21 = .ok (.invokestatic 64, 3) := by decide +kernel
theorem dX6_fork_24 : decode cX6_fork 24 = .ok (.ifCond .ne 7, 3) := by decide +kernel
theorem dX6_fork_27 : decode cX6_fork 27 = .ok (.iconst 2, 1) := by decide +kernel
theorem dX6_fork_28 : decode cX6_fork 28 = .ok (.goto 16, 3) := by decide +kernel
theorem dX6_fork_31 : decode cX6_fork 31 = .ok (.aload_n 0, 1) := by decide +kernel
theorem dX6_fork_32 : decode cX6_fork 32 = .ok (.getfield 16, 3) := by decide +kernel
theorem dX6_fork_35 : decode cX6_fork 35 = .ok (.iconst 3, 1) := by decide +kernel
theorem dX6_fork_36 : decode cX6_fork 36 = .ok (.if_icmp .ne 7, 3) := by decide +kernel
theorem dX6_fork_39 : decode cX6_fork 39 = .ok (.iconst 3, 1) := by decide +kernel
theorem dX6_fork_40 : decode cX6_fork 40 = .ok (.goto 4, 3) := by decide +kernel
theorem dX6_fork_43 : decode cX6_fork 43 = .ok (.iconst 0, 1) := by decide +kernel
theorem dX6_fork_44 : decode cX6_fork 44 = .ok (.invokevirtual 87, 3) := by decide +kernel
theorem dX6_fork_47 : decode cX6_fork 47 = .ok (.ifCond .ne 5, 3) := by decide +kernel
theorem dX6_fork_50 : decode cX6_fork 50 = .ok (.iconst 0, 1) := by decide +kernel
theorem dX6_fork_51 : decode cX6_fork 51 = .ok (.ireturn, 1) := by decide +kernel
theorem dX6_fork_52 : decode cX6_fork 52 = .ok (.iconst 0, 1) := by decide +kernel
theorem dX6_fork_53 : decode cX6_fork 53 = .ok (.istore_n 3, 1) := by decide +kernel
theorem dX6_fork_54 : decode cX6_fork 54 = .ok (.iload_n 3, 1) := by decide +kernel
theorem dX6_fork_55 : decode cX6_fork 55 = .ok (.iload_n 2, 1) := by decide +kernel
theorem dX6_fork_56 : decode cX6_fork 56 = .ok (.if_icmp .ge 34, 3) := by decide +kernel
theorem dX6_fork_59 : decode cX6_fork 59 = .ok (.aload_n 0, 1) := by decide +kernel
theorem dX6_fork_60 : decode cX6_fork 60 = .ok (.getfield 7, 3) := by decide +kernel
theorem dX6_fork_63 : decode cX6_fork 63 = .ok (.bipush 100, 2) := by decide +kernel
theorem dX6_fork_65 : decode cX6_fork 65 = .ok (.aload_n 0, 1) := by decide +kernel
theorem dX6_fork_66 : decode cX6_fork 66 = .ok (.getfield 16, 3) := by decide +kernel
theorem dX6_fork_69 : decode cX6_fork 69 = .ok (.imul, 1) := by decide +kernel
theorem dX6_fork_70 : decode cX6_fork 70 = .ok (.iload_n 3, 1) := by decide +kernel
theorem dX6_fork_71 : decode cX6_fork 71 = .ok (.iadd, 1) := by decide +kernel
theorem dX6_fork_72 : decode cX6_fork 72 = .ok (.aload_n 0, 1) := by decide +kernel
theorem dX6_fork_73 : decode cX6_fork 73 = .ok (.getfield 7, 3) := by decide +kernel
theorem dX6_fork_76 : decode cX6_fork 76 = .ok (.bipush 100, 2) := by decide +kernel
theorem dX6_fork_78 : decode cX6_fork 78 = .ok (.iload_n 1, 1) := by decide +kernel
theorem dX6_fork_79 : decode cX6_fork 79 = .ok (.imul, 1) := by decide +kernel
theorem dX6_fork_80 : decode cX6_fork 80 = .ok (.iload_n 3, 1) := by decide +kernel
theorem dX6_fork_81 : decode cX6_fork 81 = .ok (.iadd, 1) := by decide +kernel
theorem dX6_fork_82 : decode cX6_fork 82 = .ok (.iaload, 1) := by decide +kernel
theorem dX6_fork_83 : decode cX6_fork 83 = .ok (.iastore, 1) := by decide +kernel
theorem dX6_fork_84 : decode cX6_fork 84 = .ok (.iinc 3 1, 3) := by decide +kernel
theorem dX6_fork_87 : decode cX6_fork 87 = .ok (.goto (-33), 3) := by decide +kernel
theorem dX6_fork_90 : decode cX6_fork 90 = .ok (.aload_n 0, 1) := by decide +kernel
theorem dX6_fork_91 : decode cX6_fork 91 = .ok (.getfield 13, 3) := by decide +kernel
theorem dX6_fork_94 : decode cX6_fork 94 = .ok (.aload_n 0, 1) := by decide +kernel
theorem dX6_fork_95 : decode cX6_fork 95 = .ok (.getfield 16, 3) := by decide +kernel
theorem dX6_fork_98 : decode cX6_fork 98 = .ok (.iload_n 2, 1) := by decide +kernel
theorem dX6_fork_99 : decode cX6_fork 99 = .ok (.iastore, 1) := by decide +kernel
theorem dX6_fork_100 : decode cX6_fork 100 = .ok (.aload_n 0, 1) := by decide +kernel
theorem dX6_fork_101 : decode cX6_fork 101 = .ok (.dup, 1) := by decide +kernel
theorem dX6_fork_102 : decode cX6_fork 102 = .ok (.getfield 16, 3) := by decide +kernel
theorem dX6_fork_105 : decode cX6_fork 105 = .ok (.iconst 1, 1) := by decide +kernel
theorem dX6_fork_106 : decode cX6_fork 106 = .ok (.iadd, 1) := by decide +kernel
theorem dX6_fork_107 : decode cX6_fork 107 = .ok (.putfield 16, 3) := by decide +kernel
theorem dX6_fork_110 : decode cX6_fork 110 = .ok (.aload_n 0, 1) := by decide +kernel
theorem dX6_fork_111 : decode cX6_fork 111 = .ok (.getfield 16, 3) := by decide +kernel
theorem dX6_fork_114 : decode cX6_fork 114 = .ok (.iconst 1, 1) := by decide +kernel
theorem dX6_fork_115 : decode cX6_fork 115 = .ok (.isub, 1) := by decide +kernel
theorem dX6_fork_116 : decode cX6_fork 116 = .ok (.ireturn, 1) := by decide +kernel
theorem dX6_views_0 : decode cX6_views 0 = .ok (.aload_n 0, 1) := by decide +kernel
theorem dX6_views_1 : decode cX6_views 1 = .ok (.iconst 0, 1) := by decide +kernel
theorem dX6_views_2 : decode cX6_views 2 = .ok (.putfield 60, 3) := by decide +kernel
theorem dX6_views_5 : decode cX6_views 5 = .ok (.aload_n 0, 1) := by decide +kernel
theorem dX6_views_6 : decode cX6_views 6 = .ok (.getfield 16, 3) := by decide +kernel
theorem dX6_views_9 : decode cX6_views 9 = .ok (.ireturn, 1) := by decide +kernel
theorem dX6_size_0 : decode cX6_size 0 = .ok (.aload_n 0, 1) := by decide +kernel
theorem dX6_size_1 : decode cX6_size 1 = .ok (.aload_n 0, 1) := by decide +kernel
theorem dX6_size_2 : decode cX6_size 2 = .ok (.iload_n 1, 1) := by decide +kernel
theorem dX6_size_3 : decode cX6_size 3 = .ok (.invokevirtual 80, 3) := by decide +kernel
theorem dX6_size_6 : decode cX6_size 6 = .ok (.ifCond .eq 7, 3) := by decide +kernel
theorem dX6_size_9 : decode cX6_size 9 = .ok (.iconst 0, 1) := by decide +kernel
theorem dX6_size_10 : decode cX6_size 10 = .ok (.goto 4, 3) := by decide +kernel
theorem dX6_size_13 : decode cX6_size 13 = .ok (.iconst 1, 1) := by decide +kernel
theorem dX6_size_14 : decode cX6_size 14 = .ok (.invokevirtual 87, 3) := by decide +kernel
theorem dX6_size_17 : decode cX6_size 17 = .ok (.ifCond .eq 12, 3) := by decide +kernel
theorem dX6_size_20 : decode cX6_size 20 = .ok (.aload_n 0, 1) := by decide +kernel
theorem dX6_size_21 : decode cX6_size 21 = .ok (.getfield 13, 3) := by decide +kernel
theorem dX6_size_24 : decode cX6_size 24 = .ok (.iload_n 1, 1) := by decide +kernel
theorem dX6_size_25 : decode cX6_size 25 = .ok (.iaload, 1) := by decide +kernel
theorem dX6_size_26 : decode cX6_size 26 = .ok (.goto 4, 3) := by decide +kernel
theorem dX6_size_29 : decode cX6_size 29 = .ok (.iconst 0, 1) := by decide +kernel
theorem dX6_size_30 : decode cX6_size 30 = .ok (.ireturn, 1) := by decide +kernel
theorem dX6_leaf_0 : decode cX6_leaf 0 = .ok (.aload_n 0, 1) := by decide +kernel
theorem dX6_leaf_1 : decode cX6_leaf 1 = .ok (.iload_n 1, 1) := by decide +kernel
theorem dX6_leaf_2 : decode cX6_leaf 2 = .ok (.invokevirtual 80, 3) := by decide +kernel
theorem dX6_leaf_5 : decode cX6_leaf 5 = .ok (.ifCond .eq 23, 3) := by decide +kernel
theorem dX6_leaf_8 : decode cX6_leaf 8 = .ok (.iload_n 2, 1) := by decide +kernel
theorem dX6_leaf_9 : decode cX6_leaf 9 = .ok (.iconst 0, 1) := by decide +kernel
theorem dX6_leaf_10 : decode cX6_leaf 10 = .ok (.aload_n 0, 1) := by decide +kernel
theorem dX6_leaf_11 : decode cX6_leaf 11 = .ok (.getfield 13, 3) := by decide +kernel
theorem dX6_leaf_14 : decode cX6_leaf 14 = .ok (.iload_n 1, 1) := by decide +kernel
theorem dX6_leaf_15 : decode cX6_leaf 15 = .ok (.iaload, 1) := by decide +kernel
theorem dX6_leaf_16 : decode cX6_leaf 16 = .ok (.iconst 1, 1) := by decide +kernel
theorem dX6_leaf_17 : decode cX6_leaf 17 = .ok (.isub, 1) := by decide +kernel
theorem dX6_leaf_18 : decode cX6_leaf 18 = .ok (.invokestatic 64, 3) := by decide +kernel
theorem dX6_leaf_21 : decode cX6_leaf 21 = .ok (.ifCond .eq 7, 3) := by decide +kernel
theorem dX6_leaf_24 : decode cX6_leaf 24 = .ok (.iconst 1, 1) := by decide +kernel
theorem dX6_leaf_25 : decode cX6_leaf 25 = .ok (.goto 4, 3) := by decide +kernel
theorem dX6_leaf_28 : decode cX6_leaf 28 = .ok (.iconst 0, 1) := by decide +kernel
theorem dX6_leaf_29 : decode cX6_leaf 29 = .ok (.istore_n 3, 1) := by decide +kernel
theorem dX6_leaf_30 : decode cX6_leaf 30 = .ok (.aload_n 0, 1) := by decide +kernel
theorem dX6_leaf_31 : decode cX6_leaf 31 = .ok (.iload_n 3, 1) := by decide +kernel
theorem dX6_leaf_32 : decode cX6_leaf 32 = .ok (.ifCond .eq 7, 3) := by decide +kernel
theorem dX6_leaf_35 : decode cX6_leaf 35 = .ok (.iconst 0, 1) := by decide +kernel
theorem dX6_leaf_36 : decode cX6_leaf 36 = .ok (.goto 4, 3) := by decide +kernel
theorem dX6_leaf_39 : decode cX6_leaf 39 = .ok (.iconst 1, 1) := by decide +kernel
theorem dX6_leaf_40 : decode cX6_leaf 40 = .ok (.invokevirtual 87, 3) := by decide +kernel
theorem dX6_leaf_43 : decode cX6_leaf 43 = .ok (.ifCond .eq 17, 3) := by decide +kernel
theorem dX6_leaf_46 : decode cX6_leaf 46 = .ok (.aload_n 0, 1) := by decide +kernel
theorem dX6_leaf_47 : decode cX6_leaf 47 = .ok (.getfield 7, 3) := by decide +kernel
theorem dX6_leaf_50 : decode cX6_leaf 50 = .ok (.bipush 100, 2) := by decide +kernel
theorem dX6_leaf_52 : decode cX6_leaf 52 = .ok (.iload_n 1, 1) := by decide +kernel
theorem dX6_leaf_53 : decode cX6_leaf 53 = .ok (.imul, 1) := by decide +kernel
theorem dX6_leaf_54 : decode cX6_leaf 54 = .ok (.iload_n 2, 1) := by decide +kernel
theorem dX6_leaf_55 : decode cX6_leaf 55 = .ok (.iadd, 1) := by decide +kernel
theorem dX6_leaf_56 : decode cX6_leaf 56 = .ok (.iaload, 1) := by decide +kernel
theorem dX6_leaf_57 : decode cX6_leaf 57 = .ok (.goto 4, 3) := by decide +kernel
theorem dX6_leaf_60 : decode cX6_leaf 60 = .ok (.iconst 0, 1) := by decide +kernel
theorem dX6_leaf_61 : decode cX6_leaf 61 = .ok (.ireturn, 1) := by decide +kernel
theorem dX6_rootOf_0 : decode cX6_rootOf 0 = .ok (.iconst 0, 1) := by decide +kernel
theorem dX6_rootOf_1 : decode cX6_rootOf 1 = .ok (.istore 4, 2) := by decide +kernel
theorem dX6_rootOf_3 : decode cX6_rootOf 3 = .ok (.iconst 0, 1) := by decide +kernel
theorem dX6_rootOf_4 : decode cX6_rootOf 4 = .ok (.istore 5, 2) := by decide +kernel
theorem dX6_rootOf_6 : decode cX6_rootOf 6 = .ok (.iload 5, 2) := by decide +kernel
theorem dX6_rootOf_8 : decode cX6_rootOf 8 = .ok (.iload_n 3, 1) := by decide +kernel
theorem dX6_rootOf_9 : decode cX6_rootOf 9 = .ok (.if_icmp .ge 118, 3) := by decide +kernel
theorem dX6_rootOf_12 : decode cX6_rootOf 12 = .ok (.aload_n 0, 1) := by decide +kernel
theorem dX6_rootOf_13 : decode cX6_rootOf 13 = .ok (.getfield 20, 3) := by decide +kernel
theorem dX6_rootOf_16 : decode cX6_rootOf 16 = .ok (.iload 4, 2) := by decide +kernel
theorem dX6_rootOf_18 : decode cX6_rootOf 18 = .ok (.aload_n 0, 1) := by decide +kernel
theorem dX6_rootOf_19 : decode cX6_rootOf 19 = .ok (.getfield 7, 3) := by decide +kernel
theorem dX6_rootOf_22 : decode cX6_rootOf 22 = .ok (.bipush 100, 2) := by decide +kernel
theorem dX6_rootOf_24 : decode cX6_rootOf 24 = .ok (.iload_n 1, 1) := by decide +kernel
theorem dX6_rootOf_25 : decode cX6_rootOf 25 = .ok (.imul, 1) := by decide +kernel
theorem dX6_rootOf_26 : decode cX6_rootOf 26 = .ok (.iload_n 2, 1) := by decide +kernel
theorem dX6_rootOf_27 : decode cX6_rootOf 27 = .ok (.iadd, 1) := by decide +kernel
theorem dX6_rootOf_28 : decode cX6_rootOf 28 = .ok (.iload 5, 2) := by decide +kernel
theorem dX6_rootOf_30 : decode cX6_rootOf 30 = .ok (.iadd, 1) := by decide +kernel
theorem dX6_rootOf_31 : decode cX6_rootOf 31 = .ok (.iaload, 1) := by decide +kernel
theorem dX6_rootOf_32 : decode cX6_rootOf 32 = .ok (.invokestatic 90, 3) := by decide +kernel
theorem dX6_rootOf_35 : decode cX6_rootOf 35 = .ok (.iastore, 1) := by decide +kernel
theorem dX6_rootOf_36 : decode cX6_rootOf 36 = .ok (.aload_n 0, 1) := by decide +kernel
theorem dX6_rootOf_37 : decode cX6_rootOf 37 = .ok (.getfield 23, 3) := by decide +kernel
theorem dX6_rootOf_40 : decode cX6_rootOf 40 = .ok (.iload 4, 2) := by decide +kernel
theorem dX6_rootOf_42 : decode cX6_rootOf 42 = .ok (.iconst 1, 1) := by decide +kernel
theorem dX6_rootOf_43 : decode cX6_rootOf 43 = .ok (.iastore, 1) := by decide +kernel
theorem dX6_rootOf_44 : decode cX6_rootOf 44 = .ok (.iinc 4 1, 3) := by decide +kernel
theorem dX6_rootOf_47 : decode cX6_rootOf 47 = .ok (.iload 4, 2) := by decide +kernel
theorem dX6_rootOf_49 : decode cX6_rootOf 49 = .ok (.iconst 1, 1) := by decide +kernel
theorem dX6_rootOf_50 : decode cX6_rootOf 50 = .ok (.if_icmp .le 71, 3) := by decide +kernel
theorem dX6_rootOf_53 : decode cX6_rootOf 53 = .ok (.aload_n 0, 1) := by decide +kernel
theorem dX6_rootOf_54 : decode cX6_rootOf 54 = .ok (.getfield 23, 3) := by decide +kernel
theorem dX6_rootOf_57 : decode cX6_rootOf 57 = .ok (.iload 4, 2) := by decide +kernel
theorem dX6_rootOf_59 : decode cX6_rootOf 59 = .ok (.iconst 1, 1) := by decide +kernel
theorem dX6_rootOf_60 : decode cX6_rootOf 60 = .ok (.isub, 1) := by decide +kernel
theorem dX6_rootOf_61 : decode cX6_rootOf 61 = .ok (.iaload, 1) := by decide +kernel
theorem dX6_rootOf_62 : decode cX6_rootOf 62 = .ok (.aload_n 0, 1) := by decide +kernel
theorem dX6_rootOf_63 : decode cX6_rootOf 63 = .ok (.getfield 23, 3) := by decide +kernel
theorem dX6_rootOf_66 : decode cX6_rootOf 66 = .ok (.iload 4, 2) := by decide +kernel
theorem dX6_rootOf_68 : decode cX6_rootOf 68 = .ok (.iconst 2, 1) := by decide +kernel
theorem dX6_rootOf_69 : decode cX6_rootOf 69 = .ok (.isub, 1) := by decide +kernel
theorem dX6_rootOf_70 : decode cX6_rootOf 70 = .ok (.iaload, 1) := by decide +kernel
theorem dX6_rootOf_71 : decode cX6_rootOf 71 = .ok (.if_icmp .ne 50, 3) := by decide +kernel
theorem dX6_rootOf_74 : decode cX6_rootOf 74 = .ok (.iinc 4 (-1), 3) := by decide +kernel
theorem dX6_rootOf_77 : decode cX6_rootOf 77 = .ok (.aload_n 0, 1) := by decide +kernel
theorem dX6_rootOf_78 : decode cX6_rootOf 78 = .ok (.getfield 20, 3) := by decide +kernel
theorem dX6_rootOf_81 : decode cX6_rootOf 81 = .ok (.iload 4, 2) := by decide +kernel
theorem dX6_rootOf_83 : decode cX6_rootOf 83 = .ok (.iconst 1, 1) := by decide +kernel
theorem dX6_rootOf_84 : decode cX6_rootOf 84 = .ok (.isub, 1) := by decide +kernel
theorem dX6_rootOf_85 : decode cX6_rootOf 85 = .ok (.aload_n 0, 1) := by decide +kernel
theorem dX6_rootOf_86 : decode cX6_rootOf 86 = .ok (.getfield 20, 3) := by decide +kernel
theorem dX6_rootOf_89 : decode cX6_rootOf 89 = .ok (.iload 4, 2) := by decide +kernel
theorem dX6_rootOf_91 : decode cX6_rootOf 91 = .ok (.iconst 1, 1) := by decide +kernel
theorem dX6_rootOf_92 : decode cX6_rootOf 92 = .ok (.isub, 1) := by decide +kernel
theorem dX6_rootOf_93 : decode cX6_rootOf 93 = .ok (.iaload, 1) := by decide +kernel
theorem dX6_rootOf_94 : decode cX6_rootOf 94 = .ok (.aload_n 0, 1) := by decide +kernel
theorem dX6_rootOf_95 : decode cX6_rootOf 95 = .ok (.getfield 20, 3) := by decide +kernel
theorem dX6_rootOf_98 : decode cX6_rootOf 98 = .ok (.iload 4, 2) := by decide +kernel
theorem dX6_rootOf_100 : decode cX6_rootOf 100 = .ok (.iaload, 1) := by decide +kernel
theorem dX6_rootOf_101 : decode cX6_rootOf 101 = .ok (.invokestatic 94, 3) := by decide +kernel
theorem dX6_rootOf_104 : decode cX6_rootOf 104 = .ok (.iastore, 1) := by decide +kernel
theorem dX6_rootOf_105 : decode cX6_rootOf 105 = .ok (.aload_n 0, 1) := by decide +kernel
theorem dX6_rootOf_106 : decode cX6_rootOf 106 = .ok (.getfield 23, 3) := by decide +kernel
theorem dX6_rootOf_109 : decode cX6_rootOf 109 = .ok (.iload 4, 2) := by decide +kernel
theorem dX6_rootOf_111 : decode cX6_rootOf 111 = .ok (.iconst 1, 1) := by decide +kernel
theorem dX6_rootOf_112 : decode cX6_rootOf 112 = .ok (.isub, 1) := by decide +kernel
theorem dX6_rootOf_113 : decode cX6_rootOf 113 = .ok (.dup2, 1) := by decide +kernel
theorem dX6_rootOf_114 : decode cX6_rootOf 114 = .ok (.iaload, 1) := by decide +kernel
theorem dX6_rootOf_115 : decode cX6_rootOf 115 = .ok (.iconst 2, 1) := by decide +kernel
theorem dX6_rootOf_116 : decode cX6_rootOf 116 = .ok (.imul, 1) := by decide +kernel
theorem dX6_rootOf_117 : decode cX6_rootOf 117 = .ok (.iastore, 1) := by decide +kernel
theorem dX6_rootOf_118 : decode cX6_rootOf 118 = .ok (.goto (-71), 3) := by decide +kernel
theorem dX6_rootOf_121 : decode cX6_rootOf 121 = .ok (.iinc 5 1, 3) := by decide +kernel
theorem dX6_rootOf_124 : decode cX6_rootOf 124 = .ok (.goto (-118), 3) := by decide +kernel
theorem dX6_rootOf_127 : decode cX6_rootOf 127 = .ok (.iload 4, 2) := by decide +kernel
theorem dX6_rootOf_129 : decode cX6_rootOf 129 = .ok (.ifCond .ne 7, 3) := by decide +kernel
theorem dX6_rootOf_132 : decode cX6_rootOf 132 = .ok (.iconst 0, 1) := by decide +kernel
theorem dX6_rootOf_133 : decode cX6_rootOf 133 = .ok (.goto 12, 3) := by decide +kernel
theorem dX6_rootOf_136 : decode cX6_rootOf 136 = .ok (.aload_n 0, 1) := by decide +kernel
theorem dX6_rootOf_137 : decode cX6_rootOf 137 = .ok (.getfield 20, 3) := by decide +kernel
theorem dX6_rootOf_140 : decode cX6_rootOf 140 = .ok (.iload 4, 2) := by decide +kernel
theorem dX6_rootOf_142 : decode cX6_rootOf 142 = .ok (.iconst 1, 1) := by decide +kernel
theorem dX6_rootOf_143 : decode cX6_rootOf 143 = .ok (.isub, 1) := by decide +kernel
theorem dX6_rootOf_144 : decode cX6_rootOf 144 = .ok (.iaload, 1) := by decide +kernel
theorem dX6_rootOf_145 : decode cX6_rootOf 145 = .ok (.istore 5, 2) := by decide +kernel
theorem dX6_rootOf_147 : decode cX6_rootOf 147 = .ok (.iload 4, 2) := by decide +kernel
theorem dX6_rootOf_149 : decode cX6_rootOf 149 = .ok (.iconst 2, 1) := by decide +kernel
theorem dX6_rootOf_150 : decode cX6_rootOf 150 = .ok (.isub, 1) := by decide +kernel
theorem dX6_rootOf_151 : decode cX6_rootOf 151 = .ok (.istore 6, 2) := by decide +kernel
theorem dX6_rootOf_153 : decode cX6_rootOf 153 = .ok (.iload 6, 2) := by decide +kernel
theorem dX6_rootOf_155 : decode cX6_rootOf 155 = .ok (.ifCond .lt 23, 3) := by decide +kernel
theorem dX6_rootOf_158 : decode cX6_rootOf 158 = .ok (.aload_n 0, 1) := by decide +kernel
theorem dX6_rootOf_159 : decode cX6_rootOf 159 = .ok (.getfield 20, 3) := by decide +kernel
theorem dX6_rootOf_162 : decode cX6_rootOf 162 = .ok (.iload 6, 2) := by decide +kernel
theorem dX6_rootOf_164 : decode cX6_rootOf 164 = .ok (.iaload, 1) := by decide +kernel
theorem dX6_rootOf_165 : decode cX6_rootOf 165 = .ok (.iload 5, 2) := by decide +kernel
theorem dX6_rootOf_167 : decode cX6_rootOf 167 = .ok (.invokestatic 94, 3) := by decide +kernel
theorem dX6_rootOf_170 : decode cX6_rootOf 170 = .ok (.istore 5, 2) := by decide +kernel
theorem dX6_rootOf_172 : decode cX6_rootOf 172 = .ok (.iinc 6 (-1), 3) := by decide +kernel
theorem dX6_rootOf_175 : decode cX6_rootOf 175 = .ok (.goto (-22), 3) := by decide +kernel
theorem dX6_rootOf_178 : decode cX6_rootOf 178 = .ok (.iload 5, 2) := by decide +kernel
theorem dX6_rootOf_180 : decode cX6_rootOf 180 = .ok (.ireturn, 1) := by decide +kernel
theorem dX6_root_0 : decode cX6_root 0 = .ok (.aload_n 0, 1) := by decide +kernel
theorem dX6_root_1 : decode cX6_root 1 = .ok (.iload_n 1, 1) := by decide +kernel
theorem dX6_root_2 : decode cX6_root 2 = .ok (.iload_n 2, 1) := by decide +kernel
theorem dX6_root_3 : decode cX6_root 3 = .ok (.invokevirtual 98, 3) := by decide +kernel
theorem dX6_root_6 : decode cX6_root 6 = .ok (.ireturn, 1) := by decide +kernel
theorem dX6_rootAnew_0 : decode cX6_rootAnew 0 = .ok (.aload_n 0, 1) := by decide +kernel
theorem dX6_rootAnew_1 : decode cX6_rootAnew 1 = .ok (.iload_n 1, 1) := by decide +kernel
theorem dX6_rootAnew_2 : decode cX6_rootAnew 2 = .ok (.invokevirtual 80, 3) := by decide +kernel
theorem dX6_rootAnew_5 : decode cX6_rootAnew 5 = .ok (.ifCond .eq 21, 3) := by decide +kernel
theorem dX6_rootAnew_8 : decode cX6_rootAnew 8 = .ok (.iload_n 2, 1) := by decide +kernel
theorem dX6_rootAnew_9 : decode cX6_rootAnew 9 = .ok (.iconst 0, 1) := by decide +kernel
theorem dX6_rootAnew_10 : decode cX6_rootAnew 10 = .ok (.aload_n 0, 1) := by decide +kernel
theorem dX6_rootAnew_11 : decode cX6_rootAnew 11 = .ok (.getfield 13, 3) := by decide +kernel
theorem dX6_rootAnew_14 : decode cX6_rootAnew 14 = .ok (.iload_n 1, 1) := by decide +kernel
theorem dX6_rootAnew_15 : decode cX6_rootAnew 15 = .ok (.iaload, 1) := by decide +kernel
theorem dX6_rootAnew_16 : decode cX6_rootAnew 16 = .ok (.invokestatic 64, 3) := by decide +kernel
theorem dX6_rootAnew_19 : decode cX6_rootAnew 19 = .ok (.ifCond .eq 7, 3) := by decide +kernel
theorem dX6_rootAnew_22 : decode cX6_rootAnew 22 = .ok (.iconst 1, 1) := by decide +kernel
theorem dX6_rootAnew_23 : decode cX6_rootAnew 23 = .ok (.goto 4, 3) := by decide +kernel
theorem dX6_rootAnew_26 : decode cX6_rootAnew 26 = .ok (.iconst 0, 1) := by decide +kernel
theorem dX6_rootAnew_27 : decode cX6_rootAnew 27 = .ok (.istore_n 3, 1) := by decide +kernel
theorem dX6_rootAnew_28 : decode cX6_rootAnew 28 = .ok (.aload_n 0, 1) := by decide +kernel
theorem dX6_rootAnew_29 : decode cX6_rootAnew 29 = .ok (.aload_n 0, 1) := by decide +kernel
theorem dX6_rootAnew_30 : decode cX6_rootAnew 30 = .ok (.iload_n 1, 1) := by decide +kernel
theorem dX6_rootAnew_31 : decode cX6_rootAnew 31 = .ok (.invokevirtual 80, 3) := by decide +kernel
theorem dX6_rootAnew_34 : decode cX6_rootAnew 34 = .ok (.ifCond .ne 7, 3) := by decide +kernel
theorem dX6_rootAnew_37 : decode cX6_rootAnew 37 = .ok (.iconst 1, 1) := by decide +kernel
theorem dX6_rootAnew_38 : decode cX6_rootAnew 38 = .ok (.goto 12, 3) := by decide +kernel
theorem dX6_rootAnew_41 : decode cX6_rootAnew 41 = .ok (.iload_n 3, 1) := by decide +kernel
theorem dX6_rootAnew_42 : decode cX6_rootAnew 42 = .ok (.ifCond .eq 7, 3) := by decide +kernel
theorem dX6_rootAnew_45 : decode cX6_rootAnew 45 = .ok (.iconst 0, 1) := by decide +kernel
theorem dX6_rootAnew_46 : decode cX6_rootAnew 46 = .ok (.goto 4, 3) := by decide +kernel
theorem dX6_rootAnew_49 : decode cX6_rootAnew 49 = .ok (.iconst 2, 1) := by decide +kernel
theorem dX6_rootAnew_50 : decode cX6_rootAnew 50 = .ok (.invokevirtual 87, 3) := by decide +kernel
theorem dX6_rootAnew_53 : decode cX6_rootAnew 53 = .ok (.ifCond .eq 13, 3) := by decide +kernel
theorem dX6_rootAnew_56 : decode cX6_rootAnew 56 = .ok (.aload_n 0, 1) := by decide +kernel
theorem dX6_rootAnew_57 : decode cX6_rootAnew 57 = .ok (.iload_n 1, 1) := by decide +kernel
theorem dX6_rootAnew_58 : decode cX6_rootAnew 58 = .ok (.iconst 0, 1) := by decide +kernel
theorem dX6_rootAnew_59 : decode cX6_rootAnew 59 = .ok (.iload_n 2, 1) := by decide +kernel
theorem dX6_rootAnew_60 : decode cX6_rootAnew 60 = .ok (.invokevirtual 101, 3) := by decide +kernel
theorem dX6_rootAnew_63 : decode cX6_rootAnew 63 = .ok (.goto 4, 3) := by decide +kernel
theorem dX6_rootAnew_66 : decode cX6_rootAnew 66 = .ok (.iconst 0, 1) := by decide +kernel
theorem dX6_rootAnew_67 : decode cX6_rootAnew 67 = .ok (.ireturn, 1) := by decide +kernel
theorem dX6_split_0 : decode cX6_split 0 = .ok (.iconst 1, 1) := by decide +kernel
theorem dX6_split_1 : decode cX6_split 1 = .ok (.istore_n 1, 1) := by decide +kernel
theorem dX6_split_2 : decode cX6_split 2 = .ok (.iconst 2, 1) := by decide +kernel
theorem dX6_split_3 : decode cX6_split 3 = .ok (.iload_n 1, 1) := by decide +kernel
theorem dX6_split_4 : decode cX6_split 4 = .ok (.imul, 1) := by decide +kernel
theorem dX6_split_5 : decode cX6_split 5 = .ok (.iload_n 0, 1) := by decide +kernel
theorem dX6_split_6 : decode cX6_split 6 = .ok (.if_icmp .ge 10, 3) := by decide +kernel
theorem dX6_split_9 : decode cX6_split 9 = .ok (.iload_n 1, 1) := by decide +kernel
theorem dX6_split_10 : decode cX6_split 10 = .ok (.iconst 2, 1) := by decide +kernel
theorem dX6_split_11 : decode cX6_split 11 = .ok (.imul, 1) := by decide +kernel
theorem dX6_split_12 : decode cX6_split 12 = .ok (.istore_n 1, 1) := by decide +kernel
theorem dX6_split_13 : decode cX6_split 13 = .ok (.goto (-11), 3) := by decide +kernel
theorem dX6_split_16 : decode cX6_split 16 = .ok (.iload_n 1, 1) := by decide +kernel
theorem dX6_split_17 : decode cX6_split 17 = .ok (.ireturn, 1) := by decide +kernel
theorem dX6_step_0 : decode cX6_step 0 = .ok (.iload_n 3, 1) := by decide +kernel
theorem dX6_step_1 : decode cX6_step 1 = .ok (.invokestatic 105, 3) := by decide +kernel
theorem dX6_step_4 : decode cX6_step 4 = .ok (.istore 5, 2) := by decide +kernel
theorem dX6_step_6 : decode cX6_step 6 = .ok (.aload_n 0, 1) := by decide +kernel
theorem dX6_step_7 : decode cX6_step 7 = .ok (.getfield 29, 3) := by decide +kernel
theorem dX6_step_10 : decode cX6_step 10 = .ok (.aload_n 0, 1) := by decide +kernel
theorem dX6_step_11 : decode cX6_step 11 = .ok (.getfield 108, 3) := by decide +kernel
theorem dX6_step_14 : decode cX6_step 14 = .ok (.iload 4, 2) := by decide +kernel
theorem dX6_step_16 : decode cX6_step 16 = .ok (.ifCond .eq 19, 3) := by decide +kernel
theorem dX6_step_19 : decode cX6_step 19 = .ok (.aload_n 0, 1) := by decide +kernel
theorem dX6_step_20 : decode cX6_step 20 = .ok (.iload_n 1, 1) := by decide +kernel
theorem dX6_step_21 : decode cX6_step 21 = .ok (.iload_n 2, 1) := by decide +kernel
theorem dX6_step_22 : decode cX6_step 22 = .ok (.iload 5, 2) := by decide +kernel
theorem dX6_step_24 : decode cX6_step 24 = .ok (.iadd, 1) := by decide +kernel
theorem dX6_step_25 : decode cX6_step 25 = .ok (.iload_n 3, 1) := by decide +kernel
theorem dX6_step_26 : decode cX6_step 26 = .ok (.iload 5, 2) := by decide +kernel
theorem dX6_step_28 : decode cX6_step 28 = .ok (.isub, 1) := by decide +kernel
theorem dX6_step_29 : decode cX6_step 29 = .ok (.invokevirtual 101, 3) := by decide +kernel
theorem dX6_step_32 : decode cX6_step 32 = .ok (.goto 11, 3) := by decide +kernel
theorem dX6_step_35 : decode cX6_step 35 = .ok (.aload_n 0, 1) := by decide +kernel
theorem dX6_step_36 : decode cX6_step 36 = .ok (.iload_n 1, 1) := by decide +kernel
theorem dX6_step_37 : decode cX6_step 37 = .ok (.iload_n 2, 1) := by decide +kernel
theorem dX6_step_38 : decode cX6_step 38 = .ok (.iload 5, 2) := by decide +kernel
theorem dX6_step_40 : decode cX6_step 40 = .ok (.invokevirtual 101, 3) := by decide +kernel
theorem dX6_step_43 : decode cX6_step 43 = .ok (.iastore, 1) := by decide +kernel
theorem dX6_step_44 : decode cX6_step 44 = .ok (.aload_n 0, 1) := by decide +kernel
theorem dX6_step_45 : decode cX6_step 45 = .ok (.getfield 32, 3) := by decide +kernel
theorem dX6_step_48 : decode cX6_step 48 = .ok (.aload_n 0, 1) := by decide +kernel
theorem dX6_step_49 : decode cX6_step 49 = .ok (.getfield 108, 3) := by decide +kernel
theorem dX6_step_52 : decode cX6_step 52 = .ok (.iload 4, 2) := by decide +kernel
theorem dX6_step_54 : decode cX6_step 54 = .ok (.bastore, 1) := by decide +kernel
theorem dX6_step_55 : decode cX6_step 55 = .ok (.aload_n 0, 1) := by decide +kernel
theorem dX6_step_56 : decode cX6_step 56 = .ok (.dup, 1) := by decide +kernel
theorem dX6_step_57 : decode cX6_step 57 = .ok (.getfield 108, 3) := by decide +kernel
theorem dX6_step_60 : decode cX6_step 60 = .ok (.iconst 1, 1) := by decide +kernel
theorem dX6_step_61 : decode cX6_step 61 = .ok (.iadd, 1) := by decide +kernel
theorem dX6_step_62 : decode cX6_step 62 = .ok (.putfield 108, 3) := by decide +kernel
theorem dX6_step_65 : decode cX6_step 65 = .ok (.return_, 1) := by decide +kernel
theorem dX6_goToLeaf_0 : decode cX6_goToLeaf 0 = .ok (.aload_n 0, 1) := by decide +kernel
theorem dX6_goToLeaf_1 : decode cX6_goToLeaf 1 = .ok (.iconst 0, 1) := by decide +kernel
theorem dX6_goToLeaf_2 : decode cX6_goToLeaf 2 = .ok (.putfield 108, 3) := by decide +kernel
theorem dX6_goToLeaf_5 : decode cX6_goToLeaf 5 = .ok (.iconst 0, 1) := by decide +kernel
theorem dX6_goToLeaf_6 : decode cX6_goToLeaf 6 = .ok (.istore 4, 2) := by decide +kernel
theorem dX6_goToLeaf_8 : decode cX6_goToLeaf 8 = .ok (.iload_n 3, 1) := by decide +kernel
theorem dX6_goToLeaf_9 : decode cX6_goToLeaf 9 = .ok (.istore 5, 2) := by decide +kernel
theorem dX6_goToLeaf_11 : decode cX6_goToLeaf 11 = .ok (.iload 5, 2) := by decide +kernel
theorem dX6_goToLeaf_13 : decode cX6_goToLeaf 13 = .ok (.iconst 1, 1) := by decide +kernel
theorem dX6_goToLeaf_14 : decode cX6_goToLeaf 14 = .ok (.if_icmp .le 73, 3) := by decide +kernel
theorem dX6_goToLeaf_17 : decode cX6_goToLeaf 17 = .ok (.iload 5, 2) := by decide +kernel
theorem dX6_goToLeaf_19 : decode cX6_goToLeaf 19 = .ok (.invokestatic 105, 3) := by decide +kernel
theorem dX6_goToLeaf_22 : decode cX6_goToLeaf 22 = .ok (.istore 6, 2) := by decide +kernel
theorem dX6_goToLeaf_24 : decode cX6_goToLeaf 24 = .ok (.iload_n 2, 1) := by decide +kernel
theorem dX6_goToLeaf_25 : decode cX6_goToLeaf 25 = .ok (.iload 4, 2) := by decide +kernel
theorem dX6_goToLeaf_27 : decode cX6_goToLeaf 27 = .ok (.iload 6, 2) := by decide +kernel
theorem dX6_goToLeaf_29 : decode cX6_goToLeaf 29 = .ok (.iadd, 1) := by decide +kernel
theorem dX6_goToLeaf_30 : decode cX6_goToLeaf 30 = .ok (.if_icmp .ge 7, 3) := by decide +kernel
theorem dX6_goToLeaf_33 : decode cX6_goToLeaf 33 = .ok (.iconst 1, 1) := by decide +kernel
theorem dX6_goToLeaf_34 : decode cX6_goToLeaf 34 = .ok (.goto 4, 3) := by decide +kernel
theorem dX6_goToLeaf_37 : decode cX6_goToLeaf 37 = .ok (.iconst 0, 1) := by decide +kernel
theorem dX6_goToLeaf_38 : decode cX6_goToLeaf 38 = .ok (.istore 7, 2) := by decide +kernel
theorem dX6_goToLeaf_40 : decode cX6_goToLeaf 40 = .ok (.aload_n 0, 1) := by decide +kernel
theorem dX6_goToLeaf_41 : decode cX6_goToLeaf 41 = .ok (.iload_n 1, 1) := by decide +kernel
theorem dX6_goToLeaf_42 : decode cX6_goToLeaf 42 = .ok (.iload 4, 2) := by decide +kernel
theorem dX6_goToLeaf_44 : decode cX6_goToLeaf 44 = .ok (.iload 5, 2) := by decide +kernel
theorem dX6_goToLeaf_46 : decode cX6_goToLeaf 46 = .ok (.iload 7, 2) := by decide +kernel
theorem dX6_goToLeaf_48 : decode cX6_goToLeaf 48 = .ok (.invokevirtual 111, 3) := by decide +kernel
theorem dX6_goToLeaf_51 : decode cX6_goToLeaf 51 = .ok (.iload 4, 2) := by decide +kernel
theorem dX6_goToLeaf_53 : decode cX6_goToLeaf 53 = .ok (.iload 7, 2) := by decide +kernel
theorem dX6_goToLeaf_55 : decode cX6_goToLeaf 55 = .ok (.ifCond .eq 7, 3) := by decide +kernel
theorem dX6_goToLeaf_58 : decode cX6_goToLeaf 58 = .ok (.iconst 0, 1) := by decide +kernel
theorem dX6_goToLeaf_59 : decode cX6_goToLeaf 59 = .ok (.goto 5, 3) := by decide +kernel
theorem dX6_goToLeaf_62 : decode cX6_goToLeaf 62 = .ok (.iload 6, 2) := by decide +kernel
theorem dX6_goToLeaf_64 : decode cX6_goToLeaf 64 = .ok (.iadd, 1) := by decide +kernel
theorem dX6_goToLeaf_65 : decode cX6_goToLeaf 65 = .ok (.istore 4, 2) := by decide +kernel
theorem dX6_goToLeaf_67 : decode cX6_goToLeaf 67 = .ok (.iload 7, 2) := by decide +kernel
theorem dX6_goToLeaf_69 : decode cX6_goToLeaf 69 = .ok (.ifCond .eq 8, 3) := by decide +kernel
theorem dX6_goToLeaf_72 : decode cX6_goToLeaf 72 = .ok (.iload 6, 2) := by decide +kernel
theorem dX6_goToLeaf_74 : decode cX6_goToLeaf 74 = .ok (.goto 8, 3) := by decide +kernel
theorem dX6_goToLeaf_77 : decode cX6_goToLeaf 77 = .ok (.iload 5, 2) := by decide +kernel
theorem dX6_goToLeaf_79 : decode cX6_goToLeaf 79 = .ok (.iload 6, 2) := by decide +kernel
theorem dX6_goToLeaf_81 : decode cX6_goToLeaf 81 = .ok (.isub, 1) := by decide +kernel
theorem dX6_goToLeaf_82 : decode cX6_goToLeaf 82 = .ok (.istore 5, 2) := by decide +kernel
theorem dX6_goToLeaf_84 : decode cX6_goToLeaf 84 = .ok (.goto (-73), 3) := by decide +kernel
theorem dX6_goToLeaf_87 : decode cX6_goToLeaf 87 = .ok (.return_, 1) := by decide +kernel
theorem dX6_goToPart_0 : decode cX6_goToPart 0 = .ok (.aload_n 0, 1) := by decide +kernel
theorem dX6_goToPart_1 : decode cX6_goToPart 1 = .ok (.iconst 0, 1) := by decide +kernel
theorem dX6_goToPart_2 : decode cX6_goToPart 2 = .ok (.putfield 108, 3) := by decide +kernel
theorem dX6_goToPart_5 : decode cX6_goToPart 5 = .ok (.aload_n 0, 1) := by decide +kernel
theorem dX6_goToPart_6 : decode cX6_goToPart 6 = .ok (.iconst 0, 1) := by decide +kernel
theorem dX6_goToPart_7 : decode cX6_goToPart 7 = .ok (.putfield 115, 3) := by decide +kernel
theorem dX6_goToPart_10 : decode cX6_goToPart 10 = .ok (.aload_n 0, 1) := by decide +kernel
theorem dX6_goToPart_11 : decode cX6_goToPart 11 = .ok (.iload_n 3, 1) := by decide +kernel
theorem dX6_goToPart_12 : decode cX6_goToPart 12 = .ok (.putfield 118, 3) := by decide +kernel
theorem dX6_goToPart_15 : decode cX6_goToPart 15 = .ok (.aload_n 0, 1) := by decide +kernel
theorem dX6_goToPart_16 : decode cX6_goToPart 16 = .ok (.iconst 1, 1) := by decide +kernel
theorem dX6_goToPart_17 : decode cX6_goToPart 17 = .ok (.putfield 121, 3) := by decide +kernel
theorem dX6_goToPart_20 : decode cX6_goToPart 20 = .ok (.iload_n 2, 1) := by decide +kernel
theorem dX6_goToPart_21 : decode cX6_goToPart 21 = .ok (.aload_n 0, 1) := by decide +kernel
theorem dX6_goToPart_22 : decode cX6_goToPart 22 = .ok (.getfield 115, 3) := by decide +kernel
theorem dX6_goToPart_25 : decode cX6_goToPart 25 = .ok (.aload_n 0, 1) := by decide +kernel
theorem dX6_goToPart_26 : decode cX6_goToPart 26 = .ok (.getfield 118, 3) := by decide +kernel
theorem dX6_goToPart_29 : decode cX6_goToPart 29 = .ok (.iadd, 1) := by decide +kernel
theorem dX6_goToPart_30 : decode cX6_goToPart 30 = .ok (.if_icmp .eq 110, 3) := by decide +kernel
theorem dX6_goToPart_33 : decode cX6_goToPart 33 = .ok (.aload_n 0, 1) := by decide +kernel
theorem dX6_goToPart_34 : decode cX6_goToPart 34 = .ok (.getfield 118, 3) := by decide +kernel
theorem dX6_goToPart_37 : decode cX6_goToPart 37 = .ok (.invokestatic 105, 3) := by decide +kernel
theorem dX6_goToPart_40 : decode cX6_goToPart 40 = .ok (.istore 4, 2) := by decide +kernel
theorem dX6_goToPart_42 : decode cX6_goToPart 42 = .ok (.iload_n 2, 1) := by decide +kernel
theorem dX6_goToPart_43 : decode cX6_goToPart 43 = .ok (.aload_n 0, 1) := by decide +kernel
theorem dX6_goToPart_44 : decode cX6_goToPart 44 = .ok (.getfield 115, 3) := by decide +kernel
theorem dX6_goToPart_47 : decode cX6_goToPart 47 = .ok (.iload 4, 2) := by decide +kernel
theorem dX6_goToPart_49 : decode cX6_goToPart 49 = .ok (.iadd, 1) := by decide +kernel
theorem dX6_goToPart_50 : decode cX6_goToPart 50 = .ok (.if_icmp .gt 7, 3) := by decide +kernel
theorem dX6_goToPart_53 : decode cX6_goToPart 53 = .ok (.iconst 1, 1) := by decide +kernel
theorem dX6_goToPart_54 : decode cX6_goToPart 54 = .ok (.goto 4, 3) := by decide +kernel
theorem dX6_goToPart_57 : decode cX6_goToPart 57 = .ok (.iconst 0, 1) := by decide +kernel
theorem dX6_goToPart_58 : decode cX6_goToPart 58 = .ok (.istore 5, 2) := by decide +kernel
theorem dX6_goToPart_60 : decode cX6_goToPart 60 = .ok (.aload_n 0, 1) := by decide +kernel
theorem dX6_goToPart_61 : decode cX6_goToPart 61 = .ok (.iload_n 1, 1) := by decide +kernel
theorem dX6_goToPart_62 : decode cX6_goToPart 62 = .ok (.aload_n 0, 1) := by decide +kernel
theorem dX6_goToPart_63 : decode cX6_goToPart 63 = .ok (.getfield 115, 3) := by decide +kernel
theorem dX6_goToPart_66 : decode cX6_goToPart 66 = .ok (.aload_n 0, 1) := by decide +kernel
theorem dX6_goToPart_67 : decode cX6_goToPart 67 = .ok (.getfield 118, 3) := by decide +kernel
theorem dX6_goToPart_70 : decode cX6_goToPart 70 = .ok (.iload 5, 2) := by decide +kernel
theorem dX6_goToPart_72 : decode cX6_goToPart 72 = .ok (.invokevirtual 111, 3) := by decide +kernel
theorem dX6_goToPart_75 : decode cX6_goToPart 75 = .ok (.aload_n 0, 1) := by decide +kernel
theorem dX6_goToPart_76 : decode cX6_goToPart 76 = .ok (.aload_n 0, 1) := by decide +kernel
theorem dX6_goToPart_77 : decode cX6_goToPart 77 = .ok (.getfield 121, 3) := by decide +kernel
theorem dX6_goToPart_80 : decode cX6_goToPart 80 = .ok (.ifCond .eq 12, 3) := by decide +kernel
theorem dX6_goToPart_83 : decode cX6_goToPart 83 = .ok (.iload 5, 2) := by decide +kernel
theorem dX6_goToPart_85 : decode cX6_goToPart 85 = .ok (.ifCond .eq 7, 3) := by decide +kernel
theorem dX6_goToPart_88 : decode cX6_goToPart 88 = .ok (.iconst 1, 1) := by decide +kernel
theorem dX6_goToPart_89 : decode cX6_goToPart 89 = .ok (.goto 4, 3) := by decide +kernel
theorem dX6_goToPart_92 : decode cX6_goToPart 92 = .ok (.iconst 0, 1) := by decide +kernel
theorem dX6_goToPart_93 : decode cX6_goToPart 93 = .ok (.putfield 121, 3) := by decide +kernel
theorem dX6_goToPart_96 : decode cX6_goToPart 96 = .ok (.aload_n 0, 1) := by decide +kernel
theorem dX6_goToPart_97 : decode cX6_goToPart 97 = .ok (.dup, 1) := by decide +kernel
theorem dX6_goToPart_98 : decode cX6_goToPart 98 = .ok (.getfield 115, 3) := by decide +kernel
theorem dX6_goToPart_101 : decode cX6_goToPart 101 = .ok (.iload 5, 2) := by decide +kernel
theorem dX6_goToPart_103 : decode cX6_goToPart 103 = .ok (.ifCond .eq 7, 3) := by decide +kernel
theorem dX6_goToPart_106 : decode cX6_goToPart 106 = .ok (.iconst 0, 1) := by decide +kernel
theorem dX6_goToPart_107 : decode cX6_goToPart 107 = .ok (.goto 5, 3) := by decide +kernel
theorem dX6_goToPart_110 : decode cX6_goToPart 110 = .ok (.iload 4, 2) := by decide +kernel
theorem dX6_goToPart_112 : decode cX6_goToPart 112 = .ok (.iadd, 1) := by decide +kernel
theorem dX6_goToPart_113 : decode cX6_goToPart 113 = .ok (.putfield 115, 3) := by decide +kernel
theorem dX6_goToPart_116 : decode cX6_goToPart 116 = .ok (.aload_n 0, 1) := by decide +kernel
theorem dX6_goToPart_117 : decode cX6_goToPart 117 = .ok (.iload 5, 2) := by decide +kernel
theorem dX6_goToPart_119 : decode cX6_goToPart 119 = .ok (.ifCond .eq 8, 3) := by decide +kernel
theorem dX6_goToPart_122 : decode cX6_goToPart 122 = .ok (.iload 4, 2) := by decide +kernel
theorem dX6_goToPart_124 : decode cX6_goToPart 124 = .ok (.goto 10, 3) := by decide +kernel
theorem dX6_goToPart_127 : decode cX6_goToPart 127 = .ok (.aload_n 0, 1) := by decide +kernel
theorem dX6_goToPart_128 : decode cX6_goToPart 128 = .ok (.getfield 118, 3) := by decide +kernel
theorem dX6_goToPart_131 : decode cX6_goToPart 131 = .ok (.iload 4, 2) := by decide +kernel
theorem dX6_goToPart_133 : decode cX6_goToPart 133 = .ok (.isub, 1) := by decide +kernel
theorem dX6_goToPart_134 : decode cX6_goToPart 134 = .ok (.putfield 118, 3) := by decide +kernel
theorem dX6_goToPart_137 : decode cX6_goToPart 137 = .ok (.goto (-117), 3) := by decide +kernel
theorem dX6_goToPart_140 : decode cX6_goToPart 140 = .ok (.return_, 1) := by decide +kernel
theorem dX6_load_0 : decode cX6_load 0 = .ok (.aload_n 0, 1) := by decide +kernel
theorem dX6_load_1 : decode cX6_load 1 = .ok (.getfield 108, 3) := by decide +kernel
theorem dX6_load_4 : decode cX6_load 4 = .ok (.iconst 1, 1) := by decide +kernel
theorem dX6_load_5 : decode cX6_load 5 = .ok (.isub, 1) := by decide +kernel
theorem dX6_load_6 : decode cX6_load 6 = .ok (.istore_n 1, 1) := by decide +kernel
theorem dX6_load_7 : decode cX6_load 7 = .ok (.iload_n 1, 1) := by decide +kernel
theorem dX6_load_8 : decode cX6_load 8 = .ok (.ifCond .lt 34, 3) := by decide +kernel
theorem dX6_load_11 : decode cX6_load 11 = .ok (.aload_n 0, 1) := by decide +kernel
theorem dX6_load_12 : decode cX6_load 12 = .ok (.getfield 26, 3) := by decide +kernel
theorem dX6_load_15 : decode cX6_load 15 = .ok (.aload_n 0, 1) := by decide +kernel
theorem dX6_load_16 : decode cX6_load 16 = .ok (.getfield 125, 3) := by decide +kernel
theorem dX6_load_19 : decode cX6_load 19 = .ok (.aload_n 0, 1) := by decide +kernel
theorem dX6_load_20 : decode cX6_load 20 = .ok (.getfield 29, 3) := by decide +kernel
theorem dX6_load_23 : decode cX6_load 23 = .ok (.iload_n 1, 1) := by decide +kernel
theorem dX6_load_24 : decode cX6_load 24 = .ok (.iaload, 1) := by decide +kernel
theorem dX6_load_25 : decode cX6_load 25 = .ok (.iastore, 1) := by decide +kernel
theorem dX6_load_26 : decode cX6_load 26 = .ok (.aload_n 0, 1) := by decide +kernel
theorem dX6_load_27 : decode cX6_load 27 = .ok (.dup, 1) := by decide +kernel
theorem dX6_load_28 : decode cX6_load 28 = .ok (.getfield 125, 3) := by decide +kernel
theorem dX6_load_31 : decode cX6_load 31 = .ok (.iconst 1, 1) := by decide +kernel
theorem dX6_load_32 : decode cX6_load 32 = .ok (.iadd, 1) := by decide +kernel
theorem dX6_load_33 : decode cX6_load 33 = .ok (.putfield 125, 3) := by decide +kernel
theorem dX6_load_36 : decode cX6_load 36 = .ok (.iinc 1 (-1), 3) := by decide +kernel
theorem dX6_load_39 : decode cX6_load 39 = .ok (.goto (-32), 3) := by decide +kernel
theorem dX6_load_42 : decode cX6_load 42 = .ok (.aload_n 0, 1) := by decide +kernel
theorem dX6_load_43 : decode cX6_load 43 = .ok (.getfield 125, 3) := by decide +kernel
theorem dX6_load_46 : decode cX6_load 46 = .ok (.ireturn, 1) := by decide +kernel
theorem dX6_isSize_0 : decode cX6_isSize 0 = .ok (.iload_n 2, 1) := by decide +kernel
theorem dX6_isSize_1 : decode cX6_isSize 1 = .ok (.iconst 1, 1) := by decide +kernel
theorem dX6_isSize_2 : decode cX6_isSize 2 = .ok (.aload_n 0, 1) := by decide +kernel
theorem dX6_isSize_3 : decode cX6_isSize 3 = .ok (.getfield 13, 3) := by decide +kernel
theorem dX6_isSize_6 : decode cX6_isSize 6 = .ok (.iload_n 1, 1) := by decide +kernel
theorem dX6_isSize_7 : decode cX6_isSize 7 = .ok (.iaload, 1) := by decide +kernel
theorem dX6_isSize_8 : decode cX6_isSize 8 = .ok (.invokestatic 64, 3) := by decide +kernel
theorem dX6_isSize_11 : decode cX6_isSize 11 = .ok (.ireturn, 1) := by decide +kernel
theorem dX6_loadLeaf_0 : decode cX6_loadLeaf 0 = .ok (.aload_n 0, 1) := by decide +kernel
theorem dX6_loadLeaf_1 : decode cX6_loadLeaf 1 = .ok (.iload_n 1, 1) := by decide +kernel
theorem dX6_loadLeaf_2 : decode cX6_loadLeaf 2 = .ok (.invokevirtual 80, 3) := by decide +kernel
theorem dX6_loadLeaf_5 : decode cX6_loadLeaf 5 = .ok (.ifCond .eq 27, 3) := by decide +kernel
theorem dX6_loadLeaf_8 : decode cX6_loadLeaf 8 = .ok (.aload_n 0, 1) := by decide +kernel
theorem dX6_loadLeaf_9 : decode cX6_loadLeaf 9 = .ok (.iload_n 1, 1) := by decide +kernel
theorem dX6_loadLeaf_10 : decode cX6_loadLeaf 10 = .ok (.iload_n 3, 1) := by decide +kernel
theorem dX6_loadLeaf_11 : decode cX6_loadLeaf 11 = .ok (.invokevirtual 128, 3) := by decide +kernel
theorem dX6_loadLeaf_14 : decode cX6_loadLeaf 14 = .ok (.ifCond .eq 18, 3) := by decide +kernel
theorem dX6_loadLeaf_17 : decode cX6_loadLeaf 17 = .ok (.iload_n 2, 1) := by decide +kernel
theorem dX6_loadLeaf_18 : decode cX6_loadLeaf 18 = .ok (.iconst 0, 1) := by decide +kernel
theorem dX6_loadLeaf_19 : decode cX6_loadLeaf 19 = .ok (.iload_n 3, 1) := by decide +kernel
theorem dX6_loadLeaf_20 : decode cX6_loadLeaf 20 = .ok (.iconst 1, 1) := by decide +kernel
theorem dX6_loadLeaf_21 : decode cX6_loadLeaf 21 = .ok (.isub, 1) := by decide +kernel
theorem dX6_loadLeaf_22 : decode cX6_loadLeaf 22 = .ok (.invokestatic 64, 3) := by decide +kernel
theorem dX6_loadLeaf_25 : decode cX6_loadLeaf 25 = .ok (.ifCond .eq 7, 3) := by decide +kernel
theorem dX6_loadLeaf_28 : decode cX6_loadLeaf 28 = .ok (.iconst 1, 1) := by decide +kernel
theorem dX6_loadLeaf_29 : decode cX6_loadLeaf 29 = .ok (.goto 4, 3) := by decide +kernel
theorem dX6_loadLeaf_32 : decode cX6_loadLeaf 32 = .ok (.iconst 0, 1) := by decide +kernel
theorem dX6_loadLeaf_33 : decode cX6_loadLeaf 33 = .ok (.istore 4, 2) := by decide +kernel
theorem dX6_loadLeaf_35 : decode cX6_loadLeaf 35 = .ok (.aload_n 0, 1) := by decide +kernel
theorem dX6_loadLeaf_36 : decode cX6_loadLeaf 36 = .ok (.aload_n 0, 1) := by decide +kernel
theorem dX6_loadLeaf_37 : decode cX6_loadLeaf 37 = .ok (.iload_n 1, 1) := by decide +kernel
theorem dX6_loadLeaf_38 : decode cX6_loadLeaf 38 = .ok (.invokevirtual 80, 3) := by decide +kernel
theorem dX6_loadLeaf_41 : decode cX6_loadLeaf 41 = .ok (.ifCond .ne 7, 3) := by decide +kernel
theorem dX6_loadLeaf_44 : decode cX6_loadLeaf 44 = .ok (.iconst 1, 1) := by decide +kernel
theorem dX6_loadLeaf_45 : decode cX6_loadLeaf 45 = .ok (.goto 13, 3) := by decide +kernel
theorem dX6_loadLeaf_48 : decode cX6_loadLeaf 48 = .ok (.iload 4, 2) := by decide +kernel
theorem dX6_loadLeaf_50 : decode cX6_loadLeaf 50 = .ok (.ifCond .eq 7, 3) := by decide +kernel
theorem dX6_loadLeaf_53 : decode cX6_loadLeaf 53 = .ok (.iconst 0, 1) := by decide +kernel
theorem dX6_loadLeaf_54 : decode cX6_loadLeaf 54 = .ok (.goto 4, 3) := by decide +kernel
theorem dX6_loadLeaf_57 : decode cX6_loadLeaf 57 = .ok (.iconst 2, 1) := by decide +kernel
theorem dX6_loadLeaf_58 : decode cX6_loadLeaf 58 = .ok (.invokevirtual 87, 3) := by decide +kernel
theorem dX6_loadLeaf_61 : decode cX6_loadLeaf 61 = .ok (.ifCond .ne 5, 3) := by decide +kernel
theorem dX6_loadLeaf_64 : decode cX6_loadLeaf 64 = .ok (.iconst 0, 1) := by decide +kernel
theorem dX6_loadLeaf_65 : decode cX6_loadLeaf 65 = .ok (.ireturn, 1) := by decide +kernel
theorem dX6_loadLeaf_66 : decode cX6_loadLeaf 66 = .ok (.aload_n 0, 1) := by decide +kernel
theorem dX6_loadLeaf_67 : decode cX6_loadLeaf 67 = .ok (.iload_n 1, 1) := by decide +kernel
theorem dX6_loadLeaf_68 : decode cX6_loadLeaf 68 = .ok (.iload_n 2, 1) := by decide +kernel
theorem dX6_loadLeaf_69 : decode cX6_loadLeaf 69 = .ok (.iload_n 3, 1) := by decide +kernel
theorem dX6_loadLeaf_70 : decode cX6_loadLeaf 70 = .ok (.invokevirtual 132, 3) := by decide +kernel
theorem dX6_loadLeaf_73 : decode cX6_loadLeaf 73 = .ok (.aload_n 0, 1) := by decide +kernel
theorem dX6_loadLeaf_74 : decode cX6_loadLeaf 74 = .ok (.iconst 0, 1) := by decide +kernel
theorem dX6_loadLeaf_75 : decode cX6_loadLeaf 75 = .ok (.putfield 125, 3) := by decide +kernel
theorem dX6_loadLeaf_78 : decode cX6_loadLeaf 78 = .ok (.aload_n 0, 1) := by decide +kernel
theorem dX6_loadLeaf_79 : decode cX6_loadLeaf 79 = .ok (.invokevirtual 136, 3) := by decide +kernel
theorem dX6_loadLeaf_82 : decode cX6_loadLeaf 82 = .ok (.ireturn, 1) := by decide +kernel
theorem dX6_loadGrowth_0 : decode cX6_loadGrowth 0 = .ok (.aload_n 0, 1) := by decide +kernel
theorem dX6_loadGrowth_1 : decode cX6_loadGrowth 1 = .ok (.iload_n 1, 1) := by decide +kernel
theorem dX6_loadGrowth_2 : decode cX6_loadGrowth 2 = .ok (.invokevirtual 80, 3) := by decide +kernel
theorem dX6_loadGrowth_5 : decode cX6_loadGrowth 5 = .ok (.ifCond .eq 25, 3) := by decide +kernel
theorem dX6_loadGrowth_8 : decode cX6_loadGrowth 8 = .ok (.aload_n 0, 1) := by decide +kernel
theorem dX6_loadGrowth_9 : decode cX6_loadGrowth 9 = .ok (.iload_n 1, 1) := by decide +kernel
theorem dX6_loadGrowth_10 : decode cX6_loadGrowth 10 = .ok (.iload_n 3, 1) := by decide +kernel
theorem dX6_loadGrowth_11 : decode cX6_loadGrowth 11 = .ok (.invokevirtual 128, 3) := by decide +kernel
theorem dX6_loadGrowth_14 : decode cX6_loadGrowth 14 = .ok (.ifCond .eq 16, 3) := by decide +kernel
theorem dX6_loadGrowth_17 : decode cX6_loadGrowth 17 = .ok (.iload_n 2, 1) := by decide +kernel
theorem dX6_loadGrowth_18 : decode cX6_loadGrowth 18 = .ok (.iconst 1, 1) := by decide +kernel
theorem dX6_loadGrowth_19 : decode cX6_loadGrowth 19 = .ok (.iload_n 3, 1) := by decide +kernel
theorem dX6_loadGrowth_20 : decode cX6_loadGrowth 20 = .ok (.invokestatic 64, 3) := by decide +kernel
theorem dX6_loadGrowth_23 : decode cX6_loadGrowth 23 = .ok (.ifCond .eq 7, 3) := by decide +kernel
theorem dX6_loadGrowth_26 : decode cX6_loadGrowth 26 = .ok (.iconst 1, 1) := by decide +kernel
theorem dX6_loadGrowth_27 : decode cX6_loadGrowth 27 = .ok (.goto 4, 3) := by decide +kernel
theorem dX6_loadGrowth_30 : decode cX6_loadGrowth 30 = .ok (.iconst 0, 1) := by decide +kernel
theorem dX6_loadGrowth_31 : decode cX6_loadGrowth 31 = .ok (.istore 4, 2) := by decide +kernel
theorem dX6_loadGrowth_33 : decode cX6_loadGrowth 33 = .ok (.aload_n 0, 1) := by decide +kernel
theorem dX6_loadGrowth_34 : decode cX6_loadGrowth 34 = .ok (.aload_n 0, 1) := by decide +kernel
theorem dX6_loadGrowth_35 : decode cX6_loadGrowth 35 = .ok (.iload_n 1, 1) := by decide +kernel
theorem dX6_loadGrowth_36 : decode cX6_loadGrowth 36 = .ok (.invokevirtual 80, 3) := by decide +kernel
theorem dX6_loadGrowth_39 : decode cX6_loadGrowth 39 = .ok (.ifCond .ne 7, 3) := by decide +kernel
theorem dX6_loadGrowth_42 : decode cX6_loadGrowth 42 = .ok (.iconst 1, 1) := by decide +kernel
theorem dX6_loadGrowth_43 : decode cX6_loadGrowth 43 = .ok (.goto 13, 3) := by decide +kernel
theorem dX6_loadGrowth_46 : decode cX6_loadGrowth 46 = .ok (.iload 4, 2) := by decide +kernel
theorem dX6_loadGrowth_48 : decode cX6_loadGrowth 48 = .ok (.ifCond .eq 7, 3) := by decide +kernel
theorem dX6_loadGrowth_51 : decode cX6_loadGrowth 51 = .ok (.iconst 0, 1) := by decide +kernel
theorem dX6_loadGrowth_52 : decode cX6_loadGrowth 52 = .ok (.goto 4, 3) := by decide +kernel
theorem dX6_loadGrowth_55 : decode cX6_loadGrowth 55 = .ok (.iconst 2, 1) := by decide +kernel
theorem dX6_loadGrowth_56 : decode cX6_loadGrowth 56 = .ok (.invokevirtual 87, 3) := by decide +kernel
theorem dX6_loadGrowth_59 : decode cX6_loadGrowth 59 = .ok (.ifCond .ne 5, 3) := by decide +kernel
theorem dX6_loadGrowth_62 : decode cX6_loadGrowth 62 = .ok (.iconst 0, 1) := by decide +kernel
theorem dX6_loadGrowth_63 : decode cX6_loadGrowth 63 = .ok (.ireturn, 1) := by decide +kernel
theorem dX6_loadGrowth_64 : decode cX6_loadGrowth 64 = .ok (.aload_n 0, 1) := by decide +kernel
theorem dX6_loadGrowth_65 : decode cX6_loadGrowth 65 = .ok (.iload_n 1, 1) := by decide +kernel
theorem dX6_loadGrowth_66 : decode cX6_loadGrowth 66 = .ok (.iload_n 2, 1) := by decide +kernel
theorem dX6_loadGrowth_67 : decode cX6_loadGrowth 67 = .ok (.iload_n 3, 1) := by decide +kernel
theorem dX6_loadGrowth_68 : decode cX6_loadGrowth 68 = .ok (.invokevirtual 140, 3) := by decide +kernel
theorem dX6_loadGrowth_71 : decode cX6_loadGrowth 71 = .ok (.aload_n 0, 1) := by decide +kernel
theorem dX6_loadGrowth_72 : decode cX6_loadGrowth 72 = .ok (.iconst 0, 1) := by decide +kernel
theorem dX6_loadGrowth_73 : decode cX6_loadGrowth 73 = .ok (.putfield 125, 3) := by decide +kernel
theorem dX6_loadGrowth_76 : decode cX6_loadGrowth 76 = .ok (.aload_n 0, 1) := by decide +kernel
theorem dX6_loadGrowth_77 : decode cX6_loadGrowth 77 = .ok (.getfield 121, 3) := by decide +kernel
theorem dX6_loadGrowth_80 : decode cX6_loadGrowth 80 = .ok (.ifCond .ne 27, 3) := by decide +kernel
theorem dX6_loadGrowth_83 : decode cX6_loadGrowth 83 = .ok (.aload_n 0, 1) := by decide +kernel
theorem dX6_loadGrowth_84 : decode cX6_loadGrowth 84 = .ok (.getfield 26, 3) := by decide +kernel
theorem dX6_loadGrowth_87 : decode cX6_loadGrowth 87 = .ok (.iconst 0, 1) := by decide +kernel
theorem dX6_loadGrowth_88 : decode cX6_loadGrowth 88 = .ok (.aload_n 0, 1) := by decide +kernel
theorem dX6_loadGrowth_89 : decode cX6_loadGrowth 89 = .ok (.iload_n 1, 1) := by decide +kernel
theorem dX6_loadGrowth_90 : decode cX6_loadGrowth 90 = .ok (.aload_n 0, 1) := by decide +kernel
theorem dX6_loadGrowth_91 : decode cX6_loadGrowth 91 = .ok (.getfield 115, 3) := by decide +kernel
theorem dX6_loadGrowth_94 : decode cX6_loadGrowth 94 = .ok (.aload_n 0, 1) := by decide +kernel
theorem dX6_loadGrowth_95 : decode cX6_loadGrowth 95 = .ok (.getfield 118, 3) := by decide +kernel
theorem dX6_loadGrowth_98 : decode cX6_loadGrowth 98 = .ok (.invokevirtual 101, 3) := by decide +kernel
theorem dX6_loadGrowth_101 : decode cX6_loadGrowth 101 = .ok (.iastore, 1) := by decide +kernel
theorem dX6_loadGrowth_102 : decode cX6_loadGrowth 102 = .ok (.aload_n 0, 1) := by decide +kernel
theorem dX6_loadGrowth_103 : decode cX6_loadGrowth 103 = .ok (.iconst 1, 1) := by decide +kernel
theorem dX6_loadGrowth_104 : decode cX6_loadGrowth 104 = .ok (.putfield 125, 3) := by decide +kernel
theorem dX6_loadGrowth_107 : decode cX6_loadGrowth 107 = .ok (.aload_n 0, 1) := by decide +kernel
theorem dX6_loadGrowth_108 : decode cX6_loadGrowth 108 = .ok (.invokevirtual 136, 3) := by decide +kernel
theorem dX6_loadGrowth_111 : decode cX6_loadGrowth 111 = .ok (.ireturn, 1) := by decide +kernel
theorem dX6_isKey_0 : decode cX6_isKey 0 = .ok (.iload_n 0, 1) := by decide +kernel
theorem dX6_isKey_1 : decode cX6_isKey 1 = .ok (.iconst 0, 1) := by decide +kernel
theorem dX6_isKey_2 : decode cX6_isKey 2 = .ok (.bipush 63, 2) := by decide +kernel
theorem dX6_isKey_4 : decode cX6_isKey 4 = .ok (.invokestatic 64, 3) := by decide +kernel
theorem dX6_isKey_7 : decode cX6_isKey 7 = .ok (.ireturn, 1) := by decide +kernel
theorem dX6_keySum_0 : decode cX6_keySum 0 = .ok (.iload_n 0, 1) := by decide +kernel
theorem dX6_keySum_1 : decode cX6_keySum 1 = .ok (.iconst (-1), 1) := by decide +kernel
theorem dX6_keySum_2 : decode cX6_keySum 2 = .ok (.if_icmp .ne 7, 3) := by decide +kernel
theorem dX6_keySum_5 : decode cX6_keySum 5 = .ok (.iconst 0, 1) := by decide +kernel
theorem dX6_keySum_6 : decode cX6_keySum 6 = .ok (.goto 9, 3) := by decide +kernel
theorem dX6_keySum_9 : decode cX6_keySum 9 = .ok (.iload_n 0, 1) := by decide +kernel
theorem dX6_keySum_10 : decode cX6_keySum 10 = .ok (.iconst 1, 1) := by decide +kernel
theorem dX6_keySum_11 : decode cX6_keySum 11 = .ok (.iadd, 1) := by decide +kernel
theorem dX6_keySum_12 : decode cX6_keySum 12 = .ok (.invokestatic 90, 3) := by decide +kernel
theorem dX6_keySum_15 : decode cX6_keySum 15 = .ok (.ireturn, 1) := by decide +kernel
theorem dX6_join_0 : decode cX6_join 0 = .ok (.iload_n 0, 1) := by decide +kernel
theorem dX6_join_1 : decode cX6_join 1 = .ok (.ifCond .ne 11, 3) := by decide +kernel
theorem dX6_join_4 : decode cX6_join 4 = .ok (.iload_n 1, 1) := by decide +kernel
theorem dX6_join_5 : decode cX6_join 5 = .ok (.ifCond .ne 7, 3) := by decide +kernel
theorem dX6_join_8 : decode cX6_join 8 = .ok (.iconst 0, 1) := by decide +kernel
theorem dX6_join_9 : decode cX6_join 9 = .ok (.goto 8, 3) := by decide +kernel
theorem dX6_join_12 : decode cX6_join 12 = .ok (.iload_n 0, 1) := by decide +kernel
theorem dX6_join_13 : decode cX6_join 13 = .ok (.iload_n 1, 1) := by decide +kernel
theorem dX6_join_14 : decode cX6_join 14 = .ok (.invokestatic 94, 3) := by decide +kernel
theorem dX6_join_17 : decode cX6_join 17 = .ok (.ireturn, 1) := by decide +kernel
theorem dX6_climb_0 : decode cX6_climb 0 = .ok (.iconst 0, 1) := by decide +kernel
theorem dX6_climb_1 : decode cX6_climb 1 = .ok (.istore_n 2, 1) := by decide +kernel
theorem dX6_climb_2 : decode cX6_climb 2 = .ok (.iload_n 2, 1) := by decide +kernel
theorem dX6_climb_3 : decode cX6_climb 3 = .ok (.bipush 64, 2) := by decide +kernel
theorem dX6_climb_5 : decode cX6_climb 5 = .ok (.if_icmp .ge 24, 3) := by decide +kernel
theorem dX6_climb_8 : decode cX6_climb 8 = .ok (.aload_n 0, 1) := by decide +kernel
theorem dX6_climb_9 : decode cX6_climb 9 = .ok (.getfield 39, 3) := by decide +kernel
theorem dX6_climb_12 : decode cX6_climb 12 = .ok (.iload_n 2, 1) := by decide +kernel
theorem dX6_climb_13 : decode cX6_climb 13 = .ok (.aload_n 0, 1) := by decide +kernel
theorem dX6_climb_14 : decode cX6_climb 14 = .ok (.getfield 36, 3) := by decide +kernel
theorem dX6_climb_17 : decode cX6_climb 17 = .ok (.iload_n 2, 1) := by decide +kernel
theorem dX6_climb_18 : decode cX6_climb 18 = .ok (.iaload, 1) := by decide +kernel
theorem dX6_climb_19 : decode cX6_climb 19 = .ok (.invokestatic 143, 3) := by decide +kernel
theorem dX6_climb_22 : decode cX6_climb 22 = .ok (.iastore, 1) := by decide +kernel
theorem dX6_climb_23 : decode cX6_climb 23 = .ok (.iinc 2 1, 3) := by decide +kernel
theorem dX6_climb_26 : decode cX6_climb 26 = .ok (.goto (-24), 3) := by decide +kernel
theorem dX6_climb_29 : decode cX6_climb 29 = .ok (.iload_n 1, 1) := by decide +kernel
theorem dX6_climb_30 : decode cX6_climb 30 = .ok (.istore_n 2, 1) := by decide +kernel
theorem dX6_climb_31 : decode cX6_climb 31 = .ok (.bipush 64, 2) := by decide +kernel
theorem dX6_climb_33 : decode cX6_climb 33 = .ok (.istore_n 3, 1) := by decide +kernel
theorem dX6_climb_34 : decode cX6_climb 34 = .ok (.iload_n 3, 1) := by decide +kernel
theorem dX6_climb_35 : decode cX6_climb 35 = .ok (.iconst 1, 1) := by decide +kernel
theorem dX6_climb_36 : decode cX6_climb 36 = .ok (.if_icmp .le 93, 3) := by decide +kernel
theorem dX6_climb_39 : decode cX6_climb 39 = .ok (.iload_n 1, 1) := by decide +kernel
theorem dX6_climb_40 : decode cX6_climb 40 = .ok (.iconst (-1), 1) := by decide +kernel
theorem dX6_climb_41 : decode cX6_climb 41 = .ok (.if_icmp .eq 34, 3) := by decide +kernel
theorem dX6_climb_44 : decode cX6_climb 44 = .ok (.aload_n 0, 1) := by decide +kernel
theorem dX6_climb_45 : decode cX6_climb 45 = .ok (.getfield 26, 3) := by decide +kernel
theorem dX6_climb_48 : decode cX6_climb 48 = .ok (.aload_n 0, 1) := by decide +kernel
theorem dX6_climb_49 : decode cX6_climb 49 = .ok (.getfield 125, 3) := by decide +kernel
theorem dX6_climb_52 : decode cX6_climb 52 = .ok (.aload_n 0, 1) := by decide +kernel
theorem dX6_climb_53 : decode cX6_climb 53 = .ok (.getfield 39, 3) := by decide +kernel
theorem dX6_climb_56 : decode cX6_climb 56 = .ok (.iload_n 2, 1) := by decide +kernel
theorem dX6_climb_57 : decode cX6_climb 57 = .ok (.iconst 1, 1) := by decide +kernel
theorem dX6_climb_58 : decode cX6_climb 58 = .ok (.ixor, 1) := by decide +kernel
theorem dX6_climb_59 : decode cX6_climb 59 = .ok (.iaload, 1) := by decide +kernel
theorem dX6_climb_60 : decode cX6_climb 60 = .ok (.iastore, 1) := by decide +kernel
theorem dX6_climb_61 : decode cX6_climb 61 = .ok (.aload_n 0, 1) := by decide +kernel
theorem dX6_climb_62 : decode cX6_climb 62 = .ok (.dup, 1) := by decide +kernel
theorem dX6_climb_63 : decode cX6_climb 63 = .ok (.getfield 125, 3) := by decide +kernel
theorem dX6_climb_66 : decode cX6_climb 66 = .ok (.iconst 1, 1) := by decide +kernel
theorem dX6_climb_67 : decode cX6_climb 67 = .ok (.iadd, 1) := by decide +kernel
theorem dX6_climb_68 : decode cX6_climb 68 = .ok (.putfield 125, 3) := by decide +kernel
theorem dX6_climb_71 : decode cX6_climb 71 = .ok (.iload_n 2, 1) := by decide +kernel
theorem dX6_climb_72 : decode cX6_climb 72 = .ok (.iconst 2, 1) := by decide +kernel
theorem dX6_climb_73 : decode cX6_climb 73 = .ok (.idiv, 1) := by decide +kernel
theorem dX6_climb_74 : decode cX6_climb 74 = .ok (.istore_n 2, 1) := by decide +kernel
theorem dX6_climb_75 : decode cX6_climb 75 = .ok (.iconst 0, 1) := by decide +kernel
theorem dX6_climb_76 : decode cX6_climb 76 = .ok (.istore 4, 2) := by decide +kernel
theorem dX6_climb_78 : decode cX6_climb 78 = .ok (.iload 4, 2) := by decide +kernel
theorem dX6_climb_80 : decode cX6_climb 80 = .ok (.iload_n 3, 1) := by decide +kernel
theorem dX6_climb_81 : decode cX6_climb 81 = .ok (.iconst 2, 1) := by decide +kernel
theorem dX6_climb_82 : decode cX6_climb 82 = .ok (.idiv, 1) := by decide +kernel
theorem dX6_climb_83 : decode cX6_climb 83 = .ok (.if_icmp .ge 39, 3) := by decide +kernel
theorem dX6_climb_86 : decode cX6_climb 86 = .ok (.aload_n 0, 1) := by decide +kernel
theorem dX6_climb_87 : decode cX6_climb 87 = .ok (.getfield 39, 3) := by decide +kernel
theorem dX6_climb_90 : decode cX6_climb 90 = .ok (.iload 4, 2) := by decide +kernel
theorem dX6_climb_92 : decode cX6_climb 92 = .ok (.aload_n 0, 1) := by decide +kernel
theorem dX6_climb_93 : decode cX6_climb 93 = .ok (.getfield 39, 3) := by decide +kernel
theorem dX6_climb_96 : decode cX6_climb 96 = .ok (.iconst 2, 1) := by decide +kernel
theorem dX6_climb_97 : decode cX6_climb 97 = .ok (.iload 4, 2) := by decide +kernel
theorem dX6_climb_99 : decode cX6_climb 99 = .ok (.imul, 1) := by decide +kernel
theorem dX6_climb_100 : decode cX6_climb 100 = .ok (.iaload, 1) := by decide +kernel
theorem dX6_climb_101 : decode cX6_climb 101 = .ok (.aload_n 0, 1) := by decide +kernel
theorem dX6_climb_102 : decode cX6_climb 102 = .ok (.getfield 39, 3) := by decide +kernel
theorem dX6_climb_105 : decode cX6_climb 105 = .ok (.iconst 2, 1) := by decide +kernel
theorem dX6_climb_106 : decode cX6_climb 106 = .ok (.iload 4, 2) := by decide +kernel
theorem dX6_climb_108 : decode cX6_climb 108 = .ok (.imul, 1) := by decide +kernel
theorem dX6_climb_109 : decode cX6_climb 109 = .ok (.iconst 1, 1) := by decide +kernel
theorem dX6_climb_110 : decode cX6_climb 110 = .ok (.iadd, 1) := by decide +kernel
theorem dX6_climb_111 : decode cX6_climb 111 = .ok (.iaload, 1) := by decide +kernel
theorem dX6_climb_112 : decode cX6_climb 112 = .ok (.invokestatic 146, 3) := by decide +kernel
theorem dX6_climb_115 : decode cX6_climb 115 = .ok (.iastore, 1) := by decide +kernel
theorem dX6_climb_116 : decode cX6_climb 116 = .ok (.iinc 4 1, 3) := by decide +kernel
theorem dX6_climb_119 : decode cX6_climb 119 = .ok (.goto (-41), 3) := by decide +kernel
theorem dX6_climb_122 : decode cX6_climb 122 = .ok (.iload_n 3, 1) := by decide +kernel
theorem dX6_climb_123 : decode cX6_climb 123 = .ok (.iconst 2, 1) := by decide +kernel
theorem dX6_climb_124 : decode cX6_climb 124 = .ok (.idiv, 1) := by decide +kernel
theorem dX6_climb_125 : decode cX6_climb 125 = .ok (.istore_n 3, 1) := by decide +kernel
theorem dX6_climb_126 : decode cX6_climb 126 = .ok (.goto (-92), 3) := by decide +kernel
theorem dX6_climb_129 : decode cX6_climb 129 = .ok (.aload_n 0, 1) := by decide +kernel
theorem dX6_climb_130 : decode cX6_climb 130 = .ok (.getfield 39, 3) := by decide +kernel
theorem dX6_climb_133 : decode cX6_climb 133 = .ok (.iconst 0, 1) := by decide +kernel
theorem dX6_climb_134 : decode cX6_climb 134 = .ok (.iaload, 1) := by decide +kernel
theorem dX6_climb_135 : decode cX6_climb 135 = .ok (.ireturn, 1) := by decide +kernel
theorem dX6_loadKey_0 : decode cX6_loadKey 0 = .ok (.aload_n 0, 1) := by decide +kernel
theorem dX6_loadKey_1 : decode cX6_loadKey 1 = .ok (.iload_n 1, 1) := by decide +kernel
theorem dX6_loadKey_2 : decode cX6_loadKey 2 = .ok (.invokestatic 149, 3) := by decide +kernel
theorem dX6_loadKey_5 : decode cX6_loadKey 5 = .ok (.ifCond .eq 7, 3) := by decide +kernel
theorem dX6_loadKey_8 : decode cX6_loadKey 8 = .ok (.iconst 0, 1) := by decide +kernel
theorem dX6_loadKey_9 : decode cX6_loadKey 9 = .ok (.goto 4, 3) := by decide +kernel
theorem dX6_loadKey_12 : decode cX6_loadKey 12 = .ok (.iconst 1, 1) := by decide +kernel
theorem dX6_loadKey_13 : decode cX6_loadKey 13 = .ok (.invokevirtual 87, 3) := by decide +kernel
theorem dX6_loadKey_16 : decode cX6_loadKey 16 = .ok (.ifCond .ne 5, 3) := by decide +kernel
theorem dX6_loadKey_19 : decode cX6_loadKey 19 = .ok (.iconst 0, 1) := by decide +kernel
theorem dX6_loadKey_20 : decode cX6_loadKey 20 = .ok (.ireturn, 1) := by decide +kernel
theorem dX6_loadKey_21 : decode cX6_loadKey 21 = .ok (.aload_n 0, 1) := by decide +kernel
theorem dX6_loadKey_22 : decode cX6_loadKey 22 = .ok (.iconst 0, 1) := by decide +kernel
theorem dX6_loadKey_23 : decode cX6_loadKey 23 = .ok (.putfield 125, 3) := by decide +kernel
theorem dX6_loadKey_26 : decode cX6_loadKey 26 = .ok (.aload_n 0, 1) := by decide +kernel
theorem dX6_loadKey_27 : decode cX6_loadKey 27 = .ok (.iload_n 1, 1) := by decide +kernel
theorem dX6_loadKey_28 : decode cX6_loadKey 28 = .ok (.invokevirtual 152, 3) := by decide +kernel
theorem dX6_loadKey_31 : decode cX6_loadKey 31 = .ok (.istore_n 2, 1) := by decide +kernel
theorem dX6_loadKey_32 : decode cX6_loadKey 32 = .ok (.aload_n 0, 1) := by decide +kernel
theorem dX6_loadKey_33 : decode cX6_loadKey 33 = .ok (.getfield 125, 3) := by decide +kernel
theorem dX6_loadKey_36 : decode cX6_loadKey 36 = .ok (.ireturn, 1) := by decide +kernel
theorem dX6_change_0 : decode cX6_change 0 = .ok (.aload_n 0, 1) := by decide +kernel
theorem dX6_change_1 : decode cX6_change 1 = .ok (.iload_n 1, 1) := by decide +kernel
theorem dX6_change_2 : decode cX6_change 2 = .ok (.iconst 0, 1) := by decide +kernel
theorem dX6_change_3 : decode cX6_change 3 = .ok (.aload_n 0, 1) := by decide +kernel
theorem dX6_change_4 : decode cX6_change 4 = .ok (.getfield 125, 3) := by decide +kernel
theorem dX6_change_7 : decode cX6_change 7 = .ok (.invokestatic 64, 3) := by decide +kernel
theorem dX6_change_10 : decode cX6_change 10 = .ok (.ifCond .ne 7, 3) := by decide +kernel
theorem dX6_change_13 : decode cX6_change 13 = .ok (.iconst 1, 1) := by decide +kernel
theorem dX6_change_14 : decode cX6_change 14 = .ok (.goto 28, 3) := by decide +kernel
theorem dX6_change_17 : decode cX6_change 17 = .ok (.iload_n 2, 1) := by decide +kernel
theorem dX6_change_18 : decode cX6_change 18 = .ok (.iconst 0, 1) := by decide +kernel
theorem dX6_change_19 : decode cX6_change 19 = .ok (.ldc 155, 2) := by decide +kernel
theorem dX6_change_21 : decode cX6_change 21 = .ok (.invokestatic 64, 3) := by decide +kernel
theorem dX6_change_24 : decode cX6_change 24 = .ok (.ifCond .ne 7, 3) := by decide +kernel
theorem dX6_change_27 : decode cX6_change 27 = .ok (.iconst 2, 1) := by decide +kernel
theorem dX6_change_28 : decode cX6_change 28 = .ok (.goto 14, 3) := by decide +kernel
theorem dX6_change_31 : decode cX6_change 31 = .ok (.iload_n 1, 1) := by decide +kernel
theorem dX6_change_32 : decode cX6_change 32 = .ok (.bipush 12, 2) := by decide +kernel
theorem dX6_change_34 : decode cX6_change 34 = .ok (.if_icmp .ne 7, 3) := by decide +kernel
theorem dX6_change_37 : decode cX6_change 37 = .ok (.iconst 3, 1) := by decide +kernel
theorem dX6_change_38 : decode cX6_change 38 = .ok (.goto 4, 3) := by decide +kernel
theorem dX6_change_41 : decode cX6_change 41 = .ok (.iconst 0, 1) := by decide +kernel
theorem dX6_change_42 : decode cX6_change 42 = .ok (.invokevirtual 87, 3) := by decide +kernel
theorem dX6_change_45 : decode cX6_change 45 = .ok (.ifCond .ne 5, 3) := by decide +kernel
theorem dX6_change_48 : decode cX6_change 48 = .ok (.iconst 0, 1) := by decide +kernel
theorem dX6_change_49 : decode cX6_change 49 = .ok (.ireturn, 1) := by decide +kernel
theorem dX6_change_50 : decode cX6_change 50 = .ok (.aload_n 0, 1) := by decide +kernel
theorem dX6_change_51 : decode cX6_change 51 = .ok (.getfield 26, 3) := by decide +kernel
theorem dX6_change_54 : decode cX6_change 54 = .ok (.iload_n 1, 1) := by decide +kernel
theorem dX6_change_55 : decode cX6_change 55 = .ok (.iload_n 2, 1) := by decide +kernel
theorem dX6_change_56 : decode cX6_change 56 = .ok (.iastore, 1) := by decide +kernel
theorem dX6_change_57 : decode cX6_change 57 = .ok (.aload_n 0, 1) := by decide +kernel
theorem dX6_change_58 : decode cX6_change 58 = .ok (.iload_n 1, 1) := by decide +kernel
theorem dX6_change_59 : decode cX6_change 59 = .ok (.aload_n 0, 1) := by decide +kernel
theorem dX6_change_60 : decode cX6_change 60 = .ok (.getfield 125, 3) := by decide +kernel
theorem dX6_change_63 : decode cX6_change 63 = .ok (.if_icmp .ne 12, 3) := by decide +kernel
theorem dX6_change_66 : decode cX6_change 66 = .ok (.aload_n 0, 1) := by decide +kernel
theorem dX6_change_67 : decode cX6_change 67 = .ok (.getfield 125, 3) := by decide +kernel
theorem dX6_change_70 : decode cX6_change 70 = .ok (.iconst 1, 1) := by decide +kernel
theorem dX6_change_71 : decode cX6_change 71 = .ok (.iadd, 1) := by decide +kernel
theorem dX6_change_72 : decode cX6_change 72 = .ok (.goto 7, 3) := by decide +kernel
theorem dX6_change_75 : decode cX6_change 75 = .ok (.aload_n 0, 1) := by decide +kernel
theorem dX6_change_76 : decode cX6_change 76 = .ok (.getfield 125, 3) := by decide +kernel
theorem dX6_change_79 : decode cX6_change 79 = .ok (.putfield 125, 3) := by decide +kernel
theorem dX6_change_82 : decode cX6_change 82 = .ok (.aload_n 0, 1) := by decide +kernel
theorem dX6_change_83 : decode cX6_change 83 = .ok (.getfield 125, 3) := by decide +kernel
theorem dX6_change_86 : decode cX6_change 86 = .ok (.ireturn, 1) := by decide +kernel
theorem dX6_shorten_0 : decode cX6_shorten 0 = .ok (.aload_n 0, 1) := by decide +kernel
theorem dX6_shorten_1 : decode cX6_shorten 1 = .ok (.aload_n 0, 1) := by decide +kernel
theorem dX6_shorten_2 : decode cX6_shorten 2 = .ok (.getfield 125, 3) := by decide +kernel
theorem dX6_shorten_5 : decode cX6_shorten 5 = .ok (.ifCond .ne 7, 3) := by decide +kernel
theorem dX6_shorten_8 : decode cX6_shorten 8 = .ok (.iconst 1, 1) := by decide +kernel
theorem dX6_shorten_9 : decode cX6_shorten 9 = .ok (.goto 4, 3) := by decide +kernel
theorem dX6_shorten_12 : decode cX6_shorten 12 = .ok (.iconst 0, 1) := by decide +kernel
theorem dX6_shorten_13 : decode cX6_shorten 13 = .ok (.invokevirtual 87, 3) := by decide +kernel
theorem dX6_shorten_16 : decode cX6_shorten 16 = .ok (.ifCond .ne 5, 3) := by decide +kernel
theorem dX6_shorten_19 : decode cX6_shorten 19 = .ok (.iconst 0, 1) := by decide +kernel
theorem dX6_shorten_20 : decode cX6_shorten 20 = .ok (.ireturn, 1) := by decide +kernel
theorem dX6_shorten_21 : decode cX6_shorten 21 = .ok (.aload_n 0, 1) := by decide +kernel
theorem dX6_shorten_22 : decode cX6_shorten 22 = .ok (.dup, 1) := by decide +kernel
theorem dX6_shorten_23 : decode cX6_shorten 23 = .ok (.getfield 125, 3) := by decide +kernel
theorem dX6_shorten_26 : decode cX6_shorten 26 = .ok (.iconst 1, 1) := by decide +kernel
theorem dX6_shorten_27 : decode cX6_shorten 27 = .ok (.isub, 1) := by decide +kernel
theorem dX6_shorten_28 : decode cX6_shorten 28 = .ok (.putfield 125, 3) := by decide +kernel
theorem dX6_shorten_31 : decode cX6_shorten 31 = .ok (.aload_n 0, 1) := by decide +kernel
theorem dX6_shorten_32 : decode cX6_shorten 32 = .ok (.getfield 26, 3) := by decide +kernel
theorem dX6_shorten_35 : decode cX6_shorten 35 = .ok (.aload_n 0, 1) := by decide +kernel
theorem dX6_shorten_36 : decode cX6_shorten 36 = .ok (.getfield 125, 3) := by decide +kernel
theorem dX6_shorten_39 : decode cX6_shorten 39 = .ok (.iaload, 1) := by decide +kernel
theorem dX6_shorten_40 : decode cX6_shorten 40 = .ok (.ireturn, 1) := by decide +kernel
theorem dX6_sums_0 : decode cX6_sums 0 = .ok (.aload_n 0, 1) := by decide +kernel
theorem dX6_sums_1 : decode cX6_sums 1 = .ok (.iconst 0, 1) := by decide +kernel
theorem dX6_sums_2 : decode cX6_sums 2 = .ok (.putfield 60, 3) := by decide +kernel
theorem dX6_sums_5 : decode cX6_sums 5 = .ok (.aload_n 0, 1) := by decide +kernel
theorem dX6_sums_6 : decode cX6_sums 6 = .ok (.getfield 125, 3) := by decide +kernel
theorem dX6_sums_9 : decode cX6_sums 9 = .ok (.ireturn, 1) := by decide +kernel
theorem dX6_sumAt_0 : decode cX6_sumAt 0 = .ok (.aload_n 0, 1) := by decide +kernel
theorem dX6_sumAt_1 : decode cX6_sumAt 1 = .ok (.iload_n 1, 1) := by decide +kernel
theorem dX6_sumAt_2 : decode cX6_sumAt 2 = .ok (.iconst 0, 1) := by decide +kernel
theorem dX6_sumAt_3 : decode cX6_sumAt 3 = .ok (.aload_n 0, 1) := by decide +kernel
theorem dX6_sumAt_4 : decode cX6_sumAt 4 = .ok (.getfield 125, 3) := by decide +kernel
theorem dX6_sumAt_7 : decode cX6_sumAt 7 = .ok (.iconst 1, 1) := by decide +kernel
theorem dX6_sumAt_8 : decode cX6_sumAt 8 = .ok (.isub, 1) := by decide +kernel
theorem dX6_sumAt_9 : decode cX6_sumAt 9 = .ok (.invokestatic 64, 3) := by decide +kernel
theorem dX6_sumAt_12 : decode cX6_sumAt 12 = .ok (.ifCond .eq 7, 3) := by decide +kernel
theorem dX6_sumAt_15 : decode cX6_sumAt 15 = .ok (.iconst 0, 1) := by decide +kernel
theorem dX6_sumAt_16 : decode cX6_sumAt 16 = .ok (.goto 4, 3) := by decide +kernel
theorem dX6_sumAt_19 : decode cX6_sumAt 19 = .ok (.iconst 1, 1) := by decide +kernel
theorem dX6_sumAt_20 : decode cX6_sumAt 20 = .ok (.invokevirtual 87, 3) := by decide +kernel
theorem dX6_sumAt_23 : decode cX6_sumAt 23 = .ok (.ifCond .eq 12, 3) := by decide +kernel
theorem dX6_sumAt_26 : decode cX6_sumAt 26 = .ok (.aload_n 0, 1) := by decide +kernel
theorem dX6_sumAt_27 : decode cX6_sumAt 27 = .ok (.getfield 26, 3) := by decide +kernel
theorem dX6_sumAt_30 : decode cX6_sumAt 30 = .ok (.iload_n 1, 1) := by decide +kernel
theorem dX6_sumAt_31 : decode cX6_sumAt 31 = .ok (.iaload, 1) := by decide +kernel
theorem dX6_sumAt_32 : decode cX6_sumAt 32 = .ok (.goto 4, 3) := by decide +kernel
theorem dX6_sumAt_35 : decode cX6_sumAt 35 = .ok (.iconst 0, 1) := by decide +kernel
theorem dX6_sumAt_36 : decode cX6_sumAt 36 = .ok (.ireturn, 1) := by decide +kernel
theorem dX6_testLeaf_0 : decode cX6_testLeaf 0 = .ok (.aload_n 0, 1) := by decide +kernel
theorem dX6_testLeaf_1 : decode cX6_testLeaf 1 = .ok (.iload_n 1, 1) := by decide +kernel
theorem dX6_testLeaf_2 : decode cX6_testLeaf 2 = .ok (.invokevirtual 80, 3) := by decide +kernel
theorem dX6_testLeaf_5 : decode cX6_testLeaf 5 = .ok (.ifCond .eq 36, 3) := by decide +kernel
theorem dX6_testLeaf_8 : decode cX6_testLeaf 8 = .ok (.iload_n 2, 1) := by decide +kernel
theorem dX6_testLeaf_9 : decode cX6_testLeaf 9 = .ok (.invokestatic 84, 3) := by decide +kernel
theorem dX6_testLeaf_12 : decode cX6_testLeaf 12 = .ok (.ifCond .eq 29, 3) := by decide +kernel
theorem dX6_testLeaf_15 : decode cX6_testLeaf 15 = .ok (.aload_n 0, 1) := by decide +kernel
theorem dX6_testLeaf_16 : decode cX6_testLeaf 16 = .ok (.iload_n 1, 1) := by decide +kernel
theorem dX6_testLeaf_17 : decode cX6_testLeaf 17 = .ok (.iload 4, 2) := by decide +kernel
theorem dX6_testLeaf_19 : decode cX6_testLeaf 19 = .ok (.invokevirtual 128, 3) := by decide +kernel
theorem dX6_testLeaf_22 : decode cX6_testLeaf 22 = .ok (.ifCond .eq 19, 3) := by decide +kernel
theorem dX6_testLeaf_25 : decode cX6_testLeaf 25 = .ok (.iload_n 3, 1) := by decide +kernel
theorem dX6_testLeaf_26 : decode cX6_testLeaf 26 = .ok (.iconst 0, 1) := by decide +kernel
theorem dX6_testLeaf_27 : decode cX6_testLeaf 27 = .ok (.iload 4, 2) := by decide +kernel
theorem dX6_testLeaf_29 : decode cX6_testLeaf 29 = .ok (.iconst 1, 1) := by decide +kernel
theorem dX6_testLeaf_30 : decode cX6_testLeaf 30 = .ok (.isub, 1) := by decide +kernel
theorem dX6_testLeaf_31 : decode cX6_testLeaf 31 = .ok (.invokestatic 64, 3) := by decide +kernel
theorem dX6_testLeaf_34 : decode cX6_testLeaf 34 = .ok (.ifCond .eq 7, 3) := by decide +kernel
theorem dX6_testLeaf_37 : decode cX6_testLeaf 37 = .ok (.iconst 1, 1) := by decide +kernel
theorem dX6_testLeaf_38 : decode cX6_testLeaf 38 = .ok (.goto 4, 3) := by decide +kernel
theorem dX6_testLeaf_41 : decode cX6_testLeaf 41 = .ok (.iconst 0, 1) := by decide +kernel
theorem dX6_testLeaf_42 : decode cX6_testLeaf 42 = .ok (.istore 5, 2) := by decide +kernel
theorem dX6_testLeaf_44 : decode cX6_testLeaf 44 = .ok (.aload_n 0, 1) := by decide +kernel
theorem dX6_testLeaf_45 : decode cX6_testLeaf 45 = .ok (.aload_n 0, 1) := by decide +kernel
theorem dX6_testLeaf_46 : decode cX6_testLeaf 46 = .ok (.iload_n 1, 1) := by decide +kernel
theorem dX6_testLeaf_47 : decode cX6_testLeaf 47 = .ok (.invokevirtual 80, 3) := by decide +kernel
theorem dX6_testLeaf_50 : decode cX6_testLeaf 50 = .ok (.ifCond .ne 7, 3) := by decide +kernel
theorem dX6_testLeaf_53 : decode cX6_testLeaf 53 = .ok (.iconst 1, 1) := by decide +kernel
theorem dX6_testLeaf_54 : decode cX6_testLeaf 54 = .ok (.goto 13, 3) := by decide +kernel
theorem dX6_testLeaf_57 : decode cX6_testLeaf 57 = .ok (.iload 5, 2) := by decide +kernel
theorem dX6_testLeaf_59 : decode cX6_testLeaf 59 = .ok (.ifCond .eq 7, 3) := by decide +kernel
theorem dX6_testLeaf_62 : decode cX6_testLeaf 62 = .ok (.iconst 0, 1) := by decide +kernel
theorem dX6_testLeaf_63 : decode cX6_testLeaf 63 = .ok (.goto 4, 3) := by decide +kernel
theorem dX6_testLeaf_66 : decode cX6_testLeaf 66 = .ok (.iconst 2, 1) := by decide +kernel
theorem dX6_testLeaf_67 : decode cX6_testLeaf 67 = .ok (.invokevirtual 87, 3) := by decide +kernel
theorem dX6_testLeaf_70 : decode cX6_testLeaf 70 = .ok (.ifCond .ne 5, 3) := by decide +kernel
theorem dX6_testLeaf_73 : decode cX6_testLeaf 73 = .ok (.iconst 0, 1) := by decide +kernel
theorem dX6_testLeaf_74 : decode cX6_testLeaf 74 = .ok (.ireturn, 1) := by decide +kernel
theorem dX6_testLeaf_75 : decode cX6_testLeaf 75 = .ok (.aload_n 0, 1) := by decide +kernel
theorem dX6_testLeaf_76 : decode cX6_testLeaf 76 = .ok (.iload_n 1, 1) := by decide +kernel
theorem dX6_testLeaf_77 : decode cX6_testLeaf 77 = .ok (.iload_n 3, 1) := by decide +kernel
theorem dX6_testLeaf_78 : decode cX6_testLeaf 78 = .ok (.iload 4, 2) := by decide +kernel
theorem dX6_testLeaf_80 : decode cX6_testLeaf 80 = .ok (.invokevirtual 132, 3) := by decide +kernel
theorem dX6_testLeaf_83 : decode cX6_testLeaf 83 = .ok (.iload_n 2, 1) := by decide +kernel
theorem dX6_testLeaf_84 : decode cX6_testLeaf 84 = .ok (.invokestatic 90, 3) := by decide +kernel
theorem dX6_testLeaf_87 : decode cX6_testLeaf 87 = .ok (.istore 6, 2) := by decide +kernel
theorem dX6_testLeaf_89 : decode cX6_testLeaf 89 = .ok (.iconst 0, 1) := by decide +kernel
theorem dX6_testLeaf_90 : decode cX6_testLeaf 90 = .ok (.istore 7, 2) := by decide +kernel
theorem dX6_testLeaf_92 : decode cX6_testLeaf 92 = .ok (.iload 7, 2) := by decide +kernel
theorem dX6_testLeaf_94 : decode cX6_testLeaf 94 = .ok (.aload_n 0, 1) := by decide +kernel
theorem dX6_testLeaf_95 : decode cX6_testLeaf 95 = .ok (.getfield 108, 3) := by decide +kernel
theorem dX6_testLeaf_98 : decode cX6_testLeaf 98 = .ok (.if_icmp .ge 66, 3) := by decide +kernel
theorem dX6_testLeaf_101 : decode cX6_testLeaf 101 = .ok (.aload_n 0, 1) := by decide +kernel
theorem dX6_testLeaf_102 : decode cX6_testLeaf 102 = .ok (.getfield 108, 3) := by decide +kernel
theorem dX6_testLeaf_105 : decode cX6_testLeaf 105 = .ok (.aload_n 0, 1) := by decide +kernel
theorem dX6_testLeaf_106 : decode cX6_testLeaf 106 = .ok (.getfield 125, 3) := by decide +kernel
theorem dX6_testLeaf_109 : decode cX6_testLeaf 109 = .ok (.if_icmp .ne 55, 3) := by decide +kernel
theorem dX6_testLeaf_112 : decode cX6_testLeaf 112 = .ok (.aload_n 0, 1) := by decide +kernel
theorem dX6_testLeaf_113 : decode cX6_testLeaf 113 = .ok (.getfield 32, 3) := by decide +kernel
theorem dX6_testLeaf_116 : decode cX6_testLeaf 116 = .ok (.aload_n 0, 1) := by decide +kernel
theorem dX6_testLeaf_117 : decode cX6_testLeaf 117 = .ok (.getfield 108, 3) := by decide +kernel
theorem dX6_testLeaf_120 : decode cX6_testLeaf 120 = .ok (.iconst 1, 1) := by decide +kernel
theorem dX6_testLeaf_121 : decode cX6_testLeaf 121 = .ok (.isub, 1) := by decide +kernel
theorem dX6_testLeaf_122 : decode cX6_testLeaf 122 = .ok (.iload 7, 2) := by decide +kernel
theorem dX6_testLeaf_124 : decode cX6_testLeaf 124 = .ok (.isub, 1) := by decide +kernel
theorem dX6_testLeaf_125 : decode cX6_testLeaf 125 = .ok (.baload, 1) := by decide +kernel
theorem dX6_testLeaf_126 : decode cX6_testLeaf 126 = .ok (.ifCond .eq 18, 3) := by decide +kernel
theorem dX6_testLeaf_129 : decode cX6_testLeaf 129 = .ok (.iload 6, 2) := by decide +kernel
theorem dX6_testLeaf_131 : decode cX6_testLeaf 131 = .ok (.aload_n 0, 1) := by decide +kernel
theorem dX6_testLeaf_132 : decode cX6_testLeaf 132 = .ok (.getfield 26, 3) := by decide +kernel
theorem dX6_testLeaf_135 : decode cX6_testLeaf 135 = .ok (.iload 7, 2) := by decide +kernel
theorem dX6_testLeaf_137 : decode cX6_testLeaf 137 = .ok (.iaload, 1) := by decide +kernel
theorem dX6_testLeaf_138 : decode cX6_testLeaf 138 = .ok (.invokestatic 94, 3) := by decide +kernel
theorem dX6_testLeaf_141 : decode cX6_testLeaf 141 = .ok (.goto 15, 3) := by decide +kernel
theorem dX6_testLeaf_144 : decode cX6_testLeaf 144 = .ok (.aload_n 0, 1) := by decide +kernel
theorem dX6_testLeaf_145 : decode cX6_testLeaf 145 = .ok (.getfield 26, 3) := by decide +kernel
theorem dX6_testLeaf_148 : decode cX6_testLeaf 148 = .ok (.iload 7, 2) := by decide +kernel
theorem dX6_testLeaf_150 : decode cX6_testLeaf 150 = .ok (.iaload, 1) := by decide +kernel
theorem dX6_testLeaf_151 : decode cX6_testLeaf 151 = .ok (.iload 6, 2) := by decide +kernel
theorem dX6_testLeaf_153 : decode cX6_testLeaf 153 = .ok (.invokestatic 94, 3) := by decide +kernel
theorem dX6_testLeaf_156 : decode cX6_testLeaf 156 = .ok (.istore 6, 2) := by decide +kernel
theorem dX6_testLeaf_158 : decode cX6_testLeaf 158 = .ok (.iinc 7 1, 3) := by decide +kernel
theorem dX6_testLeaf_161 : decode cX6_testLeaf 161 = .ok (.goto (-69), 3) := by decide +kernel
theorem dX6_testLeaf_164 : decode cX6_testLeaf 164 = .ok (.aload_n 0, 1) := by decide +kernel
theorem dX6_testLeaf_165 : decode cX6_testLeaf 165 = .ok (.getfield 108, 3) := by decide +kernel
theorem dX6_testLeaf_168 : decode cX6_testLeaf 168 = .ok (.aload_n 0, 1) := by decide +kernel
theorem dX6_testLeaf_169 : decode cX6_testLeaf 169 = .ok (.getfield 125, 3) := by decide +kernel
theorem dX6_testLeaf_172 : decode cX6_testLeaf 172 = .ok (.if_icmp .ne 20, 3) := by decide +kernel
theorem dX6_testLeaf_175 : decode cX6_testLeaf 175 = .ok (.iload 6, 2) := by decide +kernel
theorem dX6_testLeaf_177 : decode cX6_testLeaf 177 = .ok (.aload_n 0, 1) := by decide +kernel
theorem dX6_testLeaf_178 : decode cX6_testLeaf 178 = .ok (.iload_n 1, 1) := by decide +kernel
theorem dX6_testLeaf_179 : decode cX6_testLeaf 179 = .ok (.iconst 0, 1) := by decide +kernel
theorem dX6_testLeaf_180 : decode cX6_testLeaf 180 = .ok (.iload 4, 2) := by decide +kernel
theorem dX6_testLeaf_182 : decode cX6_testLeaf 182 = .ok (.invokevirtual 101, 3) := by decide +kernel
theorem dX6_testLeaf_185 : decode cX6_testLeaf 185 = .ok (.if_icmp .ne 7, 3) := by decide +kernel
theorem dX6_testLeaf_188 : decode cX6_testLeaf 188 = .ok (.iconst 1, 1) := by decide +kernel
theorem dX6_testLeaf_189 : decode cX6_testLeaf 189 = .ok (.goto 4, 3) := by decide +kernel
theorem dX6_testLeaf_192 : decode cX6_testLeaf 192 = .ok (.iconst 0, 1) := by decide +kernel
theorem dX6_testLeaf_193 : decode cX6_testLeaf 193 = .ok (.ireturn, 1) := by decide +kernel
theorem dX6_testGrowth_0 : decode cX6_testGrowth 0 = .ok (.aload_n 0, 1) := by decide +kernel
theorem dX6_testGrowth_1 : decode cX6_testGrowth 1 = .ok (.iload_n 1, 1) := by decide +kernel
theorem dX6_testGrowth_2 : decode cX6_testGrowth 2 = .ok (.invokevirtual 80, 3) := by decide +kernel
theorem dX6_testGrowth_5 : decode cX6_testGrowth 5 = .ok (.ifCond .eq 15, 3) := by decide +kernel
theorem dX6_testGrowth_8 : decode cX6_testGrowth 8 = .ok (.aload_n 0, 1) := by decide +kernel
theorem dX6_testGrowth_9 : decode cX6_testGrowth 9 = .ok (.iload_n 3, 1) := by decide +kernel
theorem dX6_testGrowth_10 : decode cX6_testGrowth 10 = .ok (.invokevirtual 80, 3) := by decide +kernel
theorem dX6_testGrowth_13 : decode cX6_testGrowth 13 = .ok (.ifCond .eq 7, 3) := by decide +kernel
theorem dX6_testGrowth_16 : decode cX6_testGrowth 16 = .ok (.iconst 1, 1) := by decide +kernel
theorem dX6_testGrowth_17 : decode cX6_testGrowth 17 = .ok (.goto 4, 3) := by decide +kernel
theorem dX6_testGrowth_20 : decode cX6_testGrowth 20 = .ok (.iconst 0, 1) := by decide +kernel
theorem dX6_testGrowth_21 : decode cX6_testGrowth 21 = .ok (.istore 5, 2) := by decide +kernel
theorem dX6_testGrowth_23 : decode cX6_testGrowth 23 = .ok (.iload 5, 2) := by decide +kernel
theorem dX6_testGrowth_25 : decode cX6_testGrowth 25 = .ok (.ifCond .eq 37, 3) := by decide +kernel
theorem dX6_testGrowth_28 : decode cX6_testGrowth 28 = .ok (.aload_n 0, 1) := by decide +kernel
theorem dX6_testGrowth_29 : decode cX6_testGrowth 29 = .ok (.iload_n 3, 1) := by decide +kernel
theorem dX6_testGrowth_30 : decode cX6_testGrowth 30 = .ok (.iload 4, 2) := by decide +kernel
theorem dX6_testGrowth_32 : decode cX6_testGrowth 32 = .ok (.invokevirtual 128, 3) := by decide +kernel
theorem dX6_testGrowth_35 : decode cX6_testGrowth 35 = .ok (.ifCond .eq 27, 3) := by decide +kernel
theorem dX6_testGrowth_38 : decode cX6_testGrowth 38 = .ok (.iload_n 2, 1) := by decide +kernel
theorem dX6_testGrowth_39 : decode cX6_testGrowth 39 = .ok (.iconst 1, 1) := by decide +kernel
theorem dX6_testGrowth_40 : decode cX6_testGrowth 40 = .ok (.iload 4, 2) := by decide +kernel
theorem dX6_testGrowth_42 : decode cX6_testGrowth 42 = .ok (.invokestatic 64, 3) := by decide +kernel
theorem dX6_testGrowth_45 : decode cX6_testGrowth 45 = .ok (.ifCond .eq 17, 3) := by decide +kernel
theorem dX6_testGrowth_48 : decode cX6_testGrowth 48 = .ok (.iload_n 2, 1) := by decide +kernel
theorem dX6_testGrowth_49 : decode cX6_testGrowth 49 = .ok (.aload_n 0, 1) := by decide +kernel
theorem dX6_testGrowth_50 : decode cX6_testGrowth 50 = .ok (.getfield 13, 3) := by decide +kernel
theorem dX6_testGrowth_53 : decode cX6_testGrowth 53 = .ok (.iload_n 1, 1) := by decide +kernel
theorem dX6_testGrowth_54 : decode cX6_testGrowth 54 = .ok (.iaload, 1) := by decide +kernel
theorem dX6_testGrowth_55 : decode cX6_testGrowth 55 = .ok (.if_icmp .gt 7, 3) := by decide +kernel
theorem dX6_testGrowth_58 : decode cX6_testGrowth 58 = .ok (.iconst 1, 1) := by decide +kernel
theorem dX6_testGrowth_59 : decode cX6_testGrowth 59 = .ok (.goto 4, 3) := by decide +kernel
theorem dX6_testGrowth_62 : decode cX6_testGrowth 62 = .ok (.iconst 0, 1) := by decide +kernel
theorem dX6_testGrowth_63 : decode cX6_testGrowth 63 = .ok (.istore 6, 2) := by decide +kernel
theorem dX6_testGrowth_65 : decode cX6_testGrowth 65 = .ok (.aload_n 0, 1) := by decide +kernel
theorem dX6_testGrowth_66 : decode cX6_testGrowth 66 = .ok (.iload 5, 2) := by decide +kernel
theorem dX6_testGrowth_68 : decode cX6_testGrowth 68 = .ok (.ifCond .ne 7, 3) := by decide +kernel
theorem dX6_testGrowth_71 : decode cX6_testGrowth 71 = .ok (.iconst 1, 1) := by decide +kernel
theorem dX6_testGrowth_72 : decode cX6_testGrowth 72 = .ok (.goto 13, 3) := by decide +kernel
theorem dX6_testGrowth_75 : decode cX6_testGrowth 75 = .ok (.iload 6, 2) := by decide +kernel
theorem dX6_testGrowth_77 : decode cX6_testGrowth 77 = .ok (.ifCond .eq 7, 3) := by decide +kernel
theorem dX6_testGrowth_80 : decode cX6_testGrowth 80 = .ok (.iconst 0, 1) := by decide +kernel
theorem dX6_testGrowth_81 : decode cX6_testGrowth 81 = .ok (.goto 4, 3) := by decide +kernel
theorem dX6_testGrowth_84 : decode cX6_testGrowth 84 = .ok (.iconst 2, 1) := by decide +kernel
theorem dX6_testGrowth_85 : decode cX6_testGrowth 85 = .ok (.invokevirtual 87, 3) := by decide +kernel
theorem dX6_testGrowth_88 : decode cX6_testGrowth 88 = .ok (.ifCond .ne 5, 3) := by decide +kernel
theorem dX6_testGrowth_91 : decode cX6_testGrowth 91 = .ok (.iconst 0, 1) := by decide +kernel
theorem dX6_testGrowth_92 : decode cX6_testGrowth 92 = .ok (.ireturn, 1) := by decide +kernel
theorem dX6_testGrowth_93 : decode cX6_testGrowth 93 = .ok (.aload_n 0, 1) := by decide +kernel
theorem dX6_testGrowth_94 : decode cX6_testGrowth 94 = .ok (.iload_n 3, 1) := by decide +kernel
theorem dX6_testGrowth_95 : decode cX6_testGrowth 95 = .ok (.iload_n 2, 1) := by decide +kernel
theorem dX6_testGrowth_96 : decode cX6_testGrowth 96 = .ok (.iload 4, 2) := by decide +kernel
theorem dX6_testGrowth_98 : decode cX6_testGrowth 98 = .ok (.invokevirtual 140, 3) := by decide +kernel
theorem dX6_testGrowth_101 : decode cX6_testGrowth 101 = .ok (.aload_n 0, 1) := by decide +kernel
theorem dX6_testGrowth_102 : decode cX6_testGrowth 102 = .ok (.getfield 121, 3) := by decide +kernel
theorem dX6_testGrowth_105 : decode cX6_testGrowth 105 = .ok (.ifCond .eq 7, 3) := by decide +kernel
theorem dX6_testGrowth_108 : decode cX6_testGrowth 108 = .ok (.iconst 0, 1) := by decide +kernel
theorem dX6_testGrowth_109 : decode cX6_testGrowth 109 = .ok (.goto 4, 3) := by decide +kernel
theorem dX6_testGrowth_112 : decode cX6_testGrowth 112 = .ok (.iconst 1, 1) := by decide +kernel
theorem dX6_testGrowth_113 : decode cX6_testGrowth 113 = .ok (.istore 7, 2) := by decide +kernel
theorem dX6_testGrowth_115 : decode cX6_testGrowth 115 = .ok (.aload_n 0, 1) := by decide +kernel
theorem dX6_testGrowth_116 : decode cX6_testGrowth 116 = .ok (.getfield 125, 3) := by decide +kernel
theorem dX6_testGrowth_119 : decode cX6_testGrowth 119 = .ok (.aload_n 0, 1) := by decide +kernel
theorem dX6_testGrowth_120 : decode cX6_testGrowth 120 = .ok (.getfield 108, 3) := by decide +kernel
theorem dX6_testGrowth_123 : decode cX6_testGrowth 123 = .ok (.iload 7, 2) := by decide +kernel
theorem dX6_testGrowth_125 : decode cX6_testGrowth 125 = .ok (.iadd, 1) := by decide +kernel
theorem dX6_testGrowth_126 : decode cX6_testGrowth 126 = .ok (.if_icmp .eq 5, 3) := by decide +kernel
theorem dX6_testGrowth_129 : decode cX6_testGrowth 129 = .ok (.iconst 0, 1) := by decide +kernel
theorem dX6_testGrowth_130 : decode cX6_testGrowth 130 = .ok (.ireturn, 1) := by decide +kernel
theorem dX6_testGrowth_131 : decode cX6_testGrowth 131 = .ok (.aload_n 0, 1) := by decide +kernel
theorem dX6_testGrowth_132 : decode cX6_testGrowth 132 = .ok (.getfield 121, 3) := by decide +kernel
theorem dX6_testGrowth_135 : decode cX6_testGrowth 135 = .ok (.ifCond .eq 13, 3) := by decide +kernel
theorem dX6_testGrowth_138 : decode cX6_testGrowth 138 = .ok (.aload_n 0, 1) := by decide +kernel
theorem dX6_testGrowth_139 : decode cX6_testGrowth 139 = .ok (.iload_n 1, 1) := by decide +kernel
theorem dX6_testGrowth_140 : decode cX6_testGrowth 140 = .ok (.iconst 0, 1) := by decide +kernel
theorem dX6_testGrowth_141 : decode cX6_testGrowth 141 = .ok (.iload_n 2, 1) := by decide +kernel
theorem dX6_testGrowth_142 : decode cX6_testGrowth 142 = .ok (.invokevirtual 101, 3) := by decide +kernel
theorem dX6_testGrowth_145 : decode cX6_testGrowth 145 = .ok (.goto 9, 3) := by decide +kernel
theorem dX6_testGrowth_148 : decode cX6_testGrowth 148 = .ok (.aload_n 0, 1) := by decide +kernel
theorem dX6_testGrowth_149 : decode cX6_testGrowth 149 = .ok (.getfield 26, 3) := by decide +kernel
theorem dX6_testGrowth_152 : decode cX6_testGrowth 152 = .ok (.iconst 0, 1) := by decide +kernel
theorem dX6_testGrowth_153 : decode cX6_testGrowth 153 = .ok (.iaload, 1) := by decide +kernel
theorem dX6_testGrowth_154 : decode cX6_testGrowth 154 = .ok (.istore 8, 2) := by decide +kernel
theorem dX6_testGrowth_156 : decode cX6_testGrowth 156 = .ok (.iload 8, 2) := by decide +kernel
theorem dX6_testGrowth_158 : decode cX6_testGrowth 158 = .ok (.istore 9, 2) := by decide +kernel
theorem dX6_testGrowth_160 : decode cX6_testGrowth 160 = .ok (.iconst 0, 1) := by decide +kernel
theorem dX6_testGrowth_161 : decode cX6_testGrowth 161 = .ok (.istore 10, 2) := by decide +kernel
theorem dX6_testGrowth_163 : decode cX6_testGrowth 163 = .ok (.iload 10, 2) := by decide +kernel
theorem dX6_testGrowth_165 : decode cX6_testGrowth 165 = .ok (.aload_n 0, 1) := by decide +kernel
theorem dX6_testGrowth_166 : decode cX6_testGrowth 166 = .ok (.getfield 108, 3) := by decide +kernel
theorem dX6_testGrowth_169 : decode cX6_testGrowth 169 = .ok (.if_icmp .ge 80, 3) := by decide +kernel
theorem dX6_testGrowth_172 : decode cX6_testGrowth 172 = .ok (.aload_n 0, 1) := by decide +kernel
theorem dX6_testGrowth_173 : decode cX6_testGrowth 173 = .ok (.getfield 26, 3) := by decide +kernel
theorem dX6_testGrowth_176 : decode cX6_testGrowth 176 = .ok (.iload 10, 2) := by decide +kernel
theorem dX6_testGrowth_178 : decode cX6_testGrowth 178 = .ok (.iload 7, 2) := by decide +kernel
theorem dX6_testGrowth_180 : decode cX6_testGrowth 180 = .ok (.iadd, 1) := by decide +kernel
theorem dX6_testGrowth_181 : decode cX6_testGrowth 181 = .ok (.iaload, 1) := by decide +kernel
theorem dX6_testGrowth_182 : decode cX6_testGrowth 182 = .ok (.istore 11, 2) := by decide +kernel
theorem dX6_testGrowth_184 : decode cX6_testGrowth 184 = .ok (.aload_n 0, 1) := by decide +kernel
theorem dX6_testGrowth_185 : decode cX6_testGrowth 185 = .ok (.getfield 32, 3) := by decide +kernel
theorem dX6_testGrowth_188 : decode cX6_testGrowth 188 = .ok (.aload_n 0, 1) := by decide +kernel
theorem dX6_testGrowth_189 : decode cX6_testGrowth 189 = .ok (.getfield 108, 3) := by decide +kernel
theorem dX6_testGrowth_192 : decode cX6_testGrowth 192 = .ok (.iconst 1, 1) := by decide +kernel
theorem dX6_testGrowth_193 : decode cX6_testGrowth 193 = .ok (.isub, 1) := by decide +kernel
theorem dX6_testGrowth_194 : decode cX6_testGrowth 194 = .ok (.iload 10, 2) := by decide +kernel
theorem dX6_testGrowth_196 : decode cX6_testGrowth 196 = .ok (.isub, 1) := by decide +kernel
theorem dX6_testGrowth_197 : decode cX6_testGrowth 197 = .ok (.baload, 1) := by decide +kernel
theorem dX6_testGrowth_198 : decode cX6_testGrowth 198 = .ok (.istore 12, 2) := by decide +kernel
theorem dX6_testGrowth_200 : decode cX6_testGrowth 200 = .ok (.iload 12, 2) := by decide +kernel
theorem dX6_testGrowth_202 : decode cX6_testGrowth 202 = .ok (.ifCond .eq 13, 3) := by decide +kernel
theorem dX6_testGrowth_205 : decode cX6_testGrowth 205 = .ok (.iload 9, 2) := by decide +kernel
theorem dX6_testGrowth_207 : decode cX6_testGrowth 207 = .ok (.iload 11, 2) := by decide +kernel
theorem dX6_testGrowth_209 : decode cX6_testGrowth 209 = .ok (.invokestatic 94, 3) := by decide +kernel
theorem dX6_testGrowth_212 : decode cX6_testGrowth 212 = .ok (.goto 10, 3) := by decide +kernel
theorem dX6_testGrowth_215 : decode cX6_testGrowth 215 = .ok (.iload 11, 2) := by decide +kernel
theorem dX6_testGrowth_217 : decode cX6_testGrowth 217 = .ok (.iload 9, 2) := by decide +kernel
theorem dX6_testGrowth_219 : decode cX6_testGrowth 219 = .ok (.invokestatic 94, 3) := by decide +kernel
theorem dX6_testGrowth_222 : decode cX6_testGrowth 222 = .ok (.istore 9, 2) := by decide +kernel
theorem dX6_testGrowth_224 : decode cX6_testGrowth 224 = .ok (.iload 12, 2) := by decide +kernel
theorem dX6_testGrowth_226 : decode cX6_testGrowth 226 = .ok (.ifCond .eq 8, 3) := by decide +kernel
theorem dX6_testGrowth_229 : decode cX6_testGrowth 229 = .ok (.iload 8, 2) := by decide +kernel
theorem dX6_testGrowth_231 : decode cX6_testGrowth 231 = .ok (.goto 10, 3) := by decide +kernel
theorem dX6_testGrowth_234 : decode cX6_testGrowth 234 = .ok (.iload 11, 2) := by decide +kernel
theorem dX6_testGrowth_236 : decode cX6_testGrowth 236 = .ok (.iload 8, 2) := by decide +kernel
theorem dX6_testGrowth_238 : decode cX6_testGrowth 238 = .ok (.invokestatic 94, 3) := by decide +kernel
theorem dX6_testGrowth_241 : decode cX6_testGrowth 241 = .ok (.istore 8, 2) := by decide +kernel
theorem dX6_testGrowth_243 : decode cX6_testGrowth 243 = .ok (.iinc 10 1, 3) := by decide +kernel
theorem dX6_testGrowth_246 : decode cX6_testGrowth 246 = .ok (.goto (-83), 3) := by decide +kernel
theorem dX6_testGrowth_249 : decode cX6_testGrowth 249 = .ok (.iload 8, 2) := by decide +kernel
theorem dX6_testGrowth_251 : decode cX6_testGrowth 251 = .ok (.aload_n 0, 1) := by decide +kernel
theorem dX6_testGrowth_252 : decode cX6_testGrowth 252 = .ok (.iload_n 1, 1) := by decide +kernel
theorem dX6_testGrowth_253 : decode cX6_testGrowth 253 = .ok (.iconst 0, 1) := by decide +kernel
theorem dX6_testGrowth_254 : decode cX6_testGrowth 254 = .ok (.iload_n 2, 1) := by decide +kernel
theorem dX6_testGrowth_255 : decode cX6_testGrowth 255 = .ok (.invokevirtual 101, 3) := by decide +kernel
theorem dX6_testGrowth_258 : decode cX6_testGrowth 258 = .ok (.if_icmp .ne 20, 3) := by decide +kernel
theorem dX6_testGrowth_261 : decode cX6_testGrowth 261 = .ok (.iload 9, 2) := by decide +kernel
theorem dX6_testGrowth_263 : decode cX6_testGrowth 263 = .ok (.aload_n 0, 1) := by decide +kernel
theorem dX6_testGrowth_264 : decode cX6_testGrowth 264 = .ok (.iload_n 3, 1) := by decide +kernel
theorem dX6_testGrowth_265 : decode cX6_testGrowth 265 = .ok (.iconst 0, 1) := by decide +kernel
theorem dX6_testGrowth_266 : decode cX6_testGrowth 266 = .ok (.iload 4, 2) := by decide +kernel
theorem dX6_testGrowth_268 : decode cX6_testGrowth 268 = .ok (.invokevirtual 101, 3) := by decide +kernel
theorem dX6_testGrowth_271 : decode cX6_testGrowth 271 = .ok (.if_icmp .ne 7, 3) := by decide +kernel
theorem dX6_testGrowth_274 : decode cX6_testGrowth 274 = .ok (.iconst 1, 1) := by decide +kernel
theorem dX6_testGrowth_275 : decode cX6_testGrowth 275 = .ok (.goto 4, 3) := by decide +kernel
theorem dX6_testGrowth_278 : decode cX6_testGrowth 278 = .ok (.iconst 0, 1) := by decide +kernel
theorem dX6_testGrowth_279 : decode cX6_testGrowth 279 = .ok (.ireturn, 1) := by decide +kernel
theorem dX6_testKey_0 : decode cX6_testKey 0 = .ok (.aload_n 0, 1) := by decide +kernel
theorem dX6_testKey_1 : decode cX6_testKey 1 = .ok (.iload_n 1, 1) := by decide +kernel
theorem dX6_testKey_2 : decode cX6_testKey 2 = .ok (.invokestatic 149, 3) := by decide +kernel
theorem dX6_testKey_5 : decode cX6_testKey 5 = .ok (.ifCond .eq 19, 3) := by decide +kernel
theorem dX6_testKey_8 : decode cX6_testKey 8 = .ok (.iload_n 2, 1) := by decide +kernel
theorem dX6_testKey_9 : decode cX6_testKey 9 = .ok (.iconst (-1), 1) := by decide +kernel
theorem dX6_testKey_10 : decode cX6_testKey 10 = .ok (.if_icmp .eq 10, 3) := by decide +kernel
theorem dX6_testKey_13 : decode cX6_testKey 13 = .ok (.iload_n 2, 1) := by decide +kernel
theorem dX6_testKey_14 : decode cX6_testKey 14 = .ok (.invokestatic 84, 3) := by decide +kernel
theorem dX6_testKey_17 : decode cX6_testKey 17 = .ok (.ifCond .eq 7, 3) := by decide +kernel
theorem dX6_testKey_20 : decode cX6_testKey 20 = .ok (.iconst 0, 1) := by decide +kernel
theorem dX6_testKey_21 : decode cX6_testKey 21 = .ok (.goto 4, 3) := by decide +kernel
theorem dX6_testKey_24 : decode cX6_testKey 24 = .ok (.iconst 1, 1) := by decide +kernel
theorem dX6_testKey_25 : decode cX6_testKey 25 = .ok (.invokevirtual 87, 3) := by decide +kernel
theorem dX6_testKey_28 : decode cX6_testKey 28 = .ok (.ifCond .ne 5, 3) := by decide +kernel
theorem dX6_testKey_31 : decode cX6_testKey 31 = .ok (.iconst 0, 1) := by decide +kernel
theorem dX6_testKey_32 : decode cX6_testKey 32 = .ok (.ireturn, 1) := by decide +kernel
theorem dX6_testKey_33 : decode cX6_testKey 33 = .ok (.iload_n 2, 1) := by decide +kernel
theorem dX6_testKey_34 : decode cX6_testKey 34 = .ok (.invokestatic 143, 3) := by decide +kernel
theorem dX6_testKey_37 : decode cX6_testKey 37 = .ok (.istore_n 3, 1) := by decide +kernel
theorem dX6_testKey_38 : decode cX6_testKey 38 = .ok (.iconst 0, 1) := by decide +kernel
theorem dX6_testKey_39 : decode cX6_testKey 39 = .ok (.istore 4, 2) := by decide +kernel
theorem dX6_testKey_41 : decode cX6_testKey 41 = .ok (.iload 4, 2) := by decide +kernel
theorem dX6_testKey_43 : decode cX6_testKey 43 = .ok (.bipush 6, 2) := by decide +kernel
theorem dX6_testKey_45 : decode cX6_testKey 45 = .ok (.if_icmp .ge 54, 3) := by decide +kernel
theorem dX6_testKey_48 : decode cX6_testKey 48 = .ok (.aload_n 0, 1) := by decide +kernel
theorem dX6_testKey_49 : decode cX6_testKey 49 = .ok (.getfield 125, 3) := by decide +kernel
theorem dX6_testKey_52 : decode cX6_testKey 52 = .ok (.bipush 6, 2) := by decide +kernel
theorem dX6_testKey_54 : decode cX6_testKey 54 = .ok (.if_icmp .ne 45, 3) := by decide +kernel
theorem dX6_testKey_57 : decode cX6_testKey 57 = .ok (.iload_n 1, 1) := by decide +kernel
theorem dX6_testKey_58 : decode cX6_testKey 58 = .ok (.iload 4, 2) := by decide +kernel
theorem dX6_testKey_60 : decode cX6_testKey 60 = .ok (.ishr, 1) := by decide +kernel
theorem dX6_testKey_61 : decode cX6_testKey 61 = .ok (.iconst 1, 1) := by decide +kernel
theorem dX6_testKey_62 : decode cX6_testKey 62 = .ok (.iand, 1) := by decide +kernel
theorem dX6_testKey_63 : decode cX6_testKey 63 = .ok (.iconst 1, 1) := by decide +kernel
theorem dX6_testKey_64 : decode cX6_testKey 64 = .ok (.if_icmp .ne 17, 3) := by decide +kernel
theorem dX6_testKey_67 : decode cX6_testKey 67 = .ok (.aload_n 0, 1) := by decide +kernel
theorem dX6_testKey_68 : decode cX6_testKey 68 = .ok (.getfield 26, 3) := by decide +kernel
theorem dX6_testKey_71 : decode cX6_testKey 71 = .ok (.iload 4, 2) := by decide +kernel
theorem dX6_testKey_73 : decode cX6_testKey 73 = .ok (.iaload, 1) := by decide +kernel
theorem dX6_testKey_74 : decode cX6_testKey 74 = .ok (.iload_n 3, 1) := by decide +kernel
theorem dX6_testKey_75 : decode cX6_testKey 75 = .ok (.invokestatic 146, 3) := by decide +kernel
theorem dX6_testKey_78 : decode cX6_testKey 78 = .ok (.goto 14, 3) := by decide +kernel
theorem dX6_testKey_81 : decode cX6_testKey 81 = .ok (.iload_n 3, 1) := by decide +kernel
theorem dX6_testKey_82 : decode cX6_testKey 82 = .ok (.aload_n 0, 1) := by decide +kernel
theorem dX6_testKey_83 : decode cX6_testKey 83 = .ok (.getfield 26, 3) := by decide +kernel
theorem dX6_testKey_86 : decode cX6_testKey 86 = .ok (.iload 4, 2) := by decide +kernel
theorem dX6_testKey_88 : decode cX6_testKey 88 = .ok (.iaload, 1) := by decide +kernel
theorem dX6_testKey_89 : decode cX6_testKey 89 = .ok (.invokestatic 146, 3) := by decide +kernel
theorem dX6_testKey_92 : decode cX6_testKey 92 = .ok (.istore_n 3, 1) := by decide +kernel
theorem dX6_testKey_93 : decode cX6_testKey 93 = .ok (.iinc 4 1, 3) := by decide +kernel
theorem dX6_testKey_96 : decode cX6_testKey 96 = .ok (.goto (-55), 3) := by decide +kernel
theorem dX6_testKey_99 : decode cX6_testKey 99 = .ok (.aload_n 0, 1) := by decide +kernel
theorem dX6_testKey_100 : decode cX6_testKey 100 = .ok (.getfield 125, 3) := by decide +kernel
theorem dX6_testKey_103 : decode cX6_testKey 103 = .ok (.bipush 6, 2) := by decide +kernel
theorem dX6_testKey_105 : decode cX6_testKey 105 = .ok (.if_icmp .ne 16, 3) := by decide +kernel
theorem dX6_testKey_108 : decode cX6_testKey 108 = .ok (.iload_n 3, 1) := by decide +kernel
theorem dX6_testKey_109 : decode cX6_testKey 109 = .ok (.aload_n 0, 1) := by decide +kernel
theorem dX6_testKey_110 : decode cX6_testKey 110 = .ok (.iconst (-1), 1) := by decide +kernel
theorem dX6_testKey_111 : decode cX6_testKey 111 = .ok (.invokevirtual 152, 3) := by decide +kernel
theorem dX6_testKey_114 : decode cX6_testKey 114 = .ok (.if_icmp .ne 7, 3) := by decide +kernel
theorem dX6_testKey_117 : decode cX6_testKey 117 = .ok (.iconst 1, 1) := by decide +kernel
theorem dX6_testKey_118 : decode cX6_testKey 118 = .ok (.goto 4, 3) := by decide +kernel
theorem dX6_testKey_121 : decode cX6_testKey 121 = .ok (.iconst 0, 1) := by decide +kernel
theorem dX6_testKey_122 : decode cX6_testKey 122 = .ok (.ireturn, 1) := by decide +kernel
theorem dX6_put_0 : decode cX6_put 0 = .ok (.aload_n 0, 1) := by decide +kernel
theorem dX6_put_1 : decode cX6_put 1 = .ok (.iload_n 1, 1) := by decide +kernel
theorem dX6_put_2 : decode cX6_put 2 = .ok (.invokestatic 149, 3) := by decide +kernel
theorem dX6_put_5 : decode cX6_put 5 = .ok (.ifCond .eq 14, 3) := by decide +kernel
theorem dX6_put_8 : decode cX6_put 8 = .ok (.iload_n 2, 1) := by decide +kernel
theorem dX6_put_9 : decode cX6_put 9 = .ok (.invokestatic 84, 3) := by decide +kernel
theorem dX6_put_12 : decode cX6_put 12 = .ok (.ifCond .eq 7, 3) := by decide +kernel
theorem dX6_put_15 : decode cX6_put 15 = .ok (.iconst 0, 1) := by decide +kernel
theorem dX6_put_16 : decode cX6_put 16 = .ok (.goto 4, 3) := by decide +kernel
theorem dX6_put_19 : decode cX6_put 19 = .ok (.iconst 1, 1) := by decide +kernel
theorem dX6_put_20 : decode cX6_put 20 = .ok (.invokevirtual 87, 3) := by decide +kernel
theorem dX6_put_23 : decode cX6_put 23 = .ok (.ifCond .ne 5, 3) := by decide +kernel
theorem dX6_put_26 : decode cX6_put 26 = .ok (.iconst 0, 1) := by decide +kernel
theorem dX6_put_27 : decode cX6_put 27 = .ok (.ireturn, 1) := by decide +kernel
theorem dX6_put_28 : decode cX6_put 28 = .ok (.aload_n 0, 1) := by decide +kernel
theorem dX6_put_29 : decode cX6_put 29 = .ok (.getfield 36, 3) := by decide +kernel
theorem dX6_put_32 : decode cX6_put 32 = .ok (.iload_n 1, 1) := by decide +kernel
theorem dX6_put_33 : decode cX6_put 33 = .ok (.iaload, 1) := by decide +kernel
theorem dX6_put_34 : decode cX6_put 34 = .ok (.istore_n 3, 1) := by decide +kernel
theorem dX6_put_35 : decode cX6_put 35 = .ok (.aload_n 0, 1) := by decide +kernel
theorem dX6_put_36 : decode cX6_put 36 = .ok (.getfield 36, 3) := by decide +kernel
theorem dX6_put_39 : decode cX6_put 39 = .ok (.iload_n 1, 1) := by decide +kernel
theorem dX6_put_40 : decode cX6_put 40 = .ok (.iload_n 2, 1) := by decide +kernel
theorem dX6_put_41 : decode cX6_put 41 = .ok (.iastore, 1) := by decide +kernel
theorem dX6_put_42 : decode cX6_put 42 = .ok (.iload_n 3, 1) := by decide +kernel
theorem dX6_put_43 : decode cX6_put 43 = .ok (.ireturn, 1) := by decide +kernel
theorem dX6_remove_0 : decode cX6_remove 0 = .ok (.aload_n 0, 1) := by decide +kernel
theorem dX6_remove_1 : decode cX6_remove 1 = .ok (.iload_n 1, 1) := by decide +kernel
theorem dX6_remove_2 : decode cX6_remove 2 = .ok (.invokestatic 149, 3) := by decide +kernel
theorem dX6_remove_5 : decode cX6_remove 5 = .ok (.ifCond .eq 7, 3) := by decide +kernel
theorem dX6_remove_8 : decode cX6_remove 8 = .ok (.iconst 0, 1) := by decide +kernel
theorem dX6_remove_9 : decode cX6_remove 9 = .ok (.goto 4, 3) := by decide +kernel
theorem dX6_remove_12 : decode cX6_remove 12 = .ok (.iconst 1, 1) := by decide +kernel
theorem dX6_remove_13 : decode cX6_remove 13 = .ok (.invokevirtual 87, 3) := by decide +kernel
theorem dX6_remove_16 : decode cX6_remove 16 = .ok (.ifCond .ne 5, 3) := by decide +kernel
theorem dX6_remove_19 : decode cX6_remove 19 = .ok (.iconst 0, 1) := by decide +kernel
theorem dX6_remove_20 : decode cX6_remove 20 = .ok (.ireturn, 1) := by decide +kernel
theorem dX6_remove_21 : decode cX6_remove 21 = .ok (.aload_n 0, 1) := by decide +kernel
theorem dX6_remove_22 : decode cX6_remove 22 = .ok (.getfield 36, 3) := by decide +kernel
theorem dX6_remove_25 : decode cX6_remove 25 = .ok (.iload_n 1, 1) := by decide +kernel
theorem dX6_remove_26 : decode cX6_remove 26 = .ok (.iaload, 1) := by decide +kernel
theorem dX6_remove_27 : decode cX6_remove 27 = .ok (.istore_n 2, 1) := by decide +kernel
theorem dX6_remove_28 : decode cX6_remove 28 = .ok (.aload_n 0, 1) := by decide +kernel
theorem dX6_remove_29 : decode cX6_remove 29 = .ok (.getfield 36, 3) := by decide +kernel
theorem dX6_remove_32 : decode cX6_remove 32 = .ok (.iload_n 1, 1) := by decide +kernel
theorem dX6_remove_33 : decode cX6_remove 33 = .ok (.iconst (-1), 1) := by decide +kernel
theorem dX6_remove_34 : decode cX6_remove 34 = .ok (.iastore, 1) := by decide +kernel
theorem dX6_remove_35 : decode cX6_remove 35 = .ok (.iload_n 2, 1) := by decide +kernel
theorem dX6_remove_36 : decode cX6_remove 36 = .ok (.ireturn, 1) := by decide +kernel
theorem dX6_get_0 : decode cX6_get 0 = .ok (.aload_n 0, 1) := by decide +kernel
theorem dX6_get_1 : decode cX6_get 1 = .ok (.iload_n 1, 1) := by decide +kernel
theorem dX6_get_2 : decode cX6_get 2 = .ok (.invokestatic 149, 3) := by decide +kernel
theorem dX6_get_5 : decode cX6_get 5 = .ok (.ifCond .eq 7, 3) := by decide +kernel
theorem dX6_get_8 : decode cX6_get 8 = .ok (.iconst 0, 1) := by decide +kernel
theorem dX6_get_9 : decode cX6_get 9 = .ok (.goto 4, 3) := by decide +kernel
theorem dX6_get_12 : decode cX6_get 12 = .ok (.iconst 1, 1) := by decide +kernel
theorem dX6_get_13 : decode cX6_get 13 = .ok (.invokevirtual 87, 3) := by decide +kernel
theorem dX6_get_16 : decode cX6_get 16 = .ok (.ifCond .eq 12, 3) := by decide +kernel
theorem dX6_get_19 : decode cX6_get 19 = .ok (.aload_n 0, 1) := by decide +kernel
theorem dX6_get_20 : decode cX6_get 20 = .ok (.getfield 36, 3) := by decide +kernel
theorem dX6_get_23 : decode cX6_get 23 = .ok (.iload_n 1, 1) := by decide +kernel
theorem dX6_get_24 : decode cX6_get 24 = .ok (.iaload, 1) := by decide +kernel
theorem dX6_get_25 : decode cX6_get 25 = .ok (.goto 4, 3) := by decide +kernel
theorem dX6_get_28 : decode cX6_get 28 = .ok (.iconst 0, 1) := by decide +kernel
theorem dX6_get_29 : decode cX6_get 29 = .ok (.ireturn, 1) := by decide +kernel
theorem dX6_mapRoot_0 : decode cX6_mapRoot 0 = .ok (.aload_n 0, 1) := by decide +kernel
theorem dX6_mapRoot_1 : decode cX6_mapRoot 1 = .ok (.iconst 0, 1) := by decide +kernel
theorem dX6_mapRoot_2 : decode cX6_mapRoot 2 = .ok (.putfield 60, 3) := by decide +kernel
theorem dX6_mapRoot_5 : decode cX6_mapRoot 5 = .ok (.aload_n 0, 1) := by decide +kernel
theorem dX6_mapRoot_6 : decode cX6_mapRoot 6 = .ok (.iconst (-1), 1) := by decide +kernel
theorem dX6_mapRoot_7 : decode cX6_mapRoot 7 = .ok (.invokevirtual 152, 3) := by decide +kernel
theorem dX6_mapRoot_10 : decode cX6_mapRoot 10 = .ok (.ireturn, 1) := by decide +kernel
theorem dX6_isWatcher_0 : decode cX6_isWatcher 0 = .ok (.iload_n 0, 1) := by decide +kernel
theorem dX6_isWatcher_1 : decode cX6_isWatcher 1 = .ok (.iconst 0, 1) := by decide +kernel
theorem dX6_isWatcher_2 : decode cX6_isWatcher 2 = .ok (.iconst 3, 1) := by decide +kernel
theorem dX6_isWatcher_3 : decode cX6_isWatcher 3 = .ok (.invokestatic 64, 3) := by decide +kernel
theorem dX6_isWatcher_6 : decode cX6_isWatcher 6 = .ok (.ireturn, 1) := by decide +kernel
theorem dX6_show_0 : decode cX6_show 0 = .ok (.aload_n 0, 1) := by decide +kernel
theorem dX6_show_1 : decode cX6_show 1 = .ok (.iload_n 1, 1) := by decide +kernel
theorem dX6_show_2 : decode cX6_show 2 = .ok (.invokestatic 156, 3) := by decide +kernel
theorem dX6_show_5 : decode cX6_show 5 = .ok (.ifCond .eq 15, 3) := by decide +kernel
theorem dX6_show_8 : decode cX6_show 8 = .ok (.aload_n 0, 1) := by decide +kernel
theorem dX6_show_9 : decode cX6_show 9 = .ok (.iload_n 2, 1) := by decide +kernel
theorem dX6_show_10 : decode cX6_show 10 = .ok (.invokevirtual 80, 3) := by decide +kernel
theorem dX6_show_13 : decode cX6_show 13 = .ok (.ifCond .eq 7, 3) := by decide +kernel
theorem dX6_show_16 : decode cX6_show 16 = .ok (.iconst 0, 1) := by decide +kernel
theorem dX6_show_17 : decode cX6_show 17 = .ok (.goto 4, 3) := by decide +kernel
theorem dX6_show_20 : decode cX6_show 20 = .ok (.iconst 1, 1) := by decide +kernel
theorem dX6_show_21 : decode cX6_show 21 = .ok (.invokevirtual 87, 3) := by decide +kernel
theorem dX6_show_24 : decode cX6_show 24 = .ok (.ifCond .ne 5, 3) := by decide +kernel
theorem dX6_show_27 : decode cX6_show 27 = .ok (.iconst 0, 1) := by decide +kernel
theorem dX6_show_28 : decode cX6_show 28 = .ok (.ireturn, 1) := by decide +kernel
theorem dX6_show_29 : decode cX6_show 29 = .ok (.aload_n 0, 1) := by decide +kernel
theorem dX6_show_30 : decode cX6_show 30 = .ok (.getfield 45, 3) := by decide +kernel
theorem dX6_show_33 : decode cX6_show 33 = .ok (.iload_n 1, 1) := by decide +kernel
theorem dX6_show_34 : decode cX6_show 34 = .ok (.iaload, 1) := by decide +kernel
theorem dX6_show_35 : decode cX6_show 35 = .ok (.istore_n 3, 1) := by decide +kernel
theorem dX6_show_36 : decode cX6_show 36 = .ok (.iload_n 3, 1) := by decide +kernel
theorem dX6_show_37 : decode cX6_show 37 = .ok (.iconst (-1), 1) := by decide +kernel
theorem dX6_show_38 : decode cX6_show 38 = .ok (.if_icmp .eq 29, 3) := by decide +kernel
theorem dX6_show_41 : decode cX6_show 41 = .ok (.aload_n 0, 1) := by decide +kernel
theorem dX6_show_42 : decode cX6_show 42 = .ok (.getfield 13, 3) := by decide +kernel
theorem dX6_show_45 : decode cX6_show 45 = .ok (.iload_n 2, 1) := by decide +kernel
theorem dX6_show_46 : decode cX6_show 46 = .ok (.iaload, 1) := by decide +kernel
theorem dX6_show_47 : decode cX6_show 47 = .ok (.iload_n 3, 1) := by decide +kernel
theorem dX6_show_48 : decode cX6_show 48 = .ok (.if_icmp .lt 23, 3) := by decide +kernel
theorem dX6_show_51 : decode cX6_show 51 = .ok (.aload_n 0, 1) := by decide +kernel
theorem dX6_show_52 : decode cX6_show 52 = .ok (.iload_n 2, 1) := by decide +kernel
theorem dX6_show_53 : decode cX6_show 53 = .ok (.iconst 0, 1) := by decide +kernel
theorem dX6_show_54 : decode cX6_show 54 = .ok (.iload_n 3, 1) := by decide +kernel
theorem dX6_show_55 : decode cX6_show 55 = .ok (.invokevirtual 101, 3) := by decide +kernel
theorem dX6_show_58 : decode cX6_show 58 = .ok (.aload_n 0, 1) := by decide +kernel
theorem dX6_show_59 : decode cX6_show 59 = .ok (.getfield 48, 3) := by decide +kernel
theorem dX6_show_62 : decode cX6_show 62 = .ok (.iload_n 1, 1) := by decide +kernel
theorem dX6_show_63 : decode cX6_show 63 = .ok (.iaload, 1) := by decide +kernel
theorem dX6_show_64 : decode cX6_show 64 = .ok (.if_icmp .ne 7, 3) := by decide +kernel
theorem dX6_show_67 : decode cX6_show 67 = .ok (.iconst 1, 1) := by decide +kernel
theorem dX6_show_68 : decode cX6_show 68 = .ok (.goto 4, 3) := by decide +kernel
theorem dX6_show_71 : decode cX6_show 71 = .ok (.iconst 0, 1) := by decide +kernel
theorem dX6_show_72 : decode cX6_show 72 = .ok (.istore 4, 2) := by decide +kernel
theorem dX6_show_74 : decode cX6_show 74 = .ok (.iload 4, 2) := by decide +kernel
theorem dX6_show_76 : decode cX6_show 76 = .ok (.ifCond .ne 12, 3) := by decide +kernel
theorem dX6_show_79 : decode cX6_show 79 = .ok (.aload_n 0, 1) := by decide +kernel
theorem dX6_show_80 : decode cX6_show 80 = .ok (.getfield 51, 3) := by decide +kernel
theorem dX6_show_83 : decode cX6_show 83 = .ok (.iload_n 1, 1) := by decide +kernel
theorem dX6_show_84 : decode cX6_show 84 = .ok (.iconst 1, 1) := by decide +kernel
theorem dX6_show_85 : decode cX6_show 85 = .ok (.bastore, 1) := by decide +kernel
theorem dX6_show_86 : decode cX6_show 86 = .ok (.iconst 0, 1) := by decide +kernel
theorem dX6_show_87 : decode cX6_show 87 = .ok (.ireturn, 1) := by decide +kernel
theorem dX6_show_88 : decode cX6_show 88 = .ok (.iload_n 3, 1) := by decide +kernel
theorem dX6_show_89 : decode cX6_show 89 = .ok (.iconst (-1), 1) := by decide +kernel
theorem dX6_show_90 : decode cX6_show 90 = .ok (.if_icmp .ne 7, 3) := by decide +kernel
theorem dX6_show_93 : decode cX6_show 93 = .ok (.iconst 0, 1) := by decide +kernel
theorem dX6_show_94 : decode cX6_show 94 = .ok (.goto 4, 3) := by decide +kernel
theorem dX6_show_97 : decode cX6_show 97 = .ok (.iload_n 3, 1) := by decide +kernel
theorem dX6_show_98 : decode cX6_show 98 = .ok (.istore 5, 2) := by decide +kernel
theorem dX6_show_100 : decode cX6_show 100 = .ok (.iload 5, 2) := by decide +kernel
theorem dX6_show_102 : decode cX6_show 102 = .ok (.aload_n 0, 1) := by decide +kernel
theorem dX6_show_103 : decode cX6_show 103 = .ok (.getfield 13, 3) := by decide +kernel
theorem dX6_show_106 : decode cX6_show 106 = .ok (.iload_n 2, 1) := by decide +kernel
theorem dX6_show_107 : decode cX6_show 107 = .ok (.iaload, 1) := by decide +kernel
theorem dX6_show_108 : decode cX6_show 108 = .ok (.if_icmp .ge 44, 3) := by decide +kernel
theorem dX6_show_111 : decode cX6_show 111 = .ok (.aload_n 0, 1) := by decide +kernel
theorem dX6_show_112 : decode cX6_show 112 = .ok (.getfield 57, 3) := by decide +kernel
theorem dX6_show_115 : decode cX6_show 115 = .ok (.iload_n 1, 1) := by decide +kernel
theorem dX6_show_116 : decode cX6_show 116 = .ok (.dup2, 1) := by decide +kernel
theorem dX6_show_117 : decode cX6_show 117 = .ok (.iaload, 1) := by decide +kernel
theorem dX6_show_118 : decode cX6_show 118 = .ok (.aload_n 0, 1) := by decide +kernel
theorem dX6_show_119 : decode cX6_show 119 = .ok (.getfield 7, 3) := by decide +kernel
theorem dX6_show_122 : decode cX6_show 122 = .ok (.bipush 100, 2) := by decide +kernel
theorem dX6_show_124 : decode cX6_show 124 = .ok (.iload_n 2, 1) := by decide +kernel
theorem dX6_show_125 : decode cX6_show 125 = .ok (.imul, 1) := by decide +kernel
theorem dX6_show_126 : decode cX6_show 126 = .ok (.iload 5, 2) := by decide +kernel
theorem dX6_show_128 : decode cX6_show 128 = .ok (.iadd, 1) := by decide +kernel
theorem dX6_show_129 : decode cX6_show 129 = .ok (.iaload, 1) := by decide +kernel
theorem dX6_show_130 : decode cX6_show 130 = .ok (.aload_n 0, 1) := by decide +kernel
theorem dX6_show_131 : decode cX6_show 131 = .ok (.getfield 54, 3) := by decide +kernel
theorem dX6_show_134 : decode cX6_show 134 = .ok (.iload_n 1, 1) := by decide +kernel
theorem dX6_show_135 : decode cX6_show 135 = .ok (.iaload, 1) := by decide +kernel
theorem dX6_show_136 : decode cX6_show 136 = .ok (.if_icmp .ne 7, 3) := by decide +kernel
theorem dX6_show_139 : decode cX6_show 139 = .ok (.iconst 1, 1) := by decide +kernel
theorem dX6_show_140 : decode cX6_show 140 = .ok (.goto 4, 3) := by decide +kernel
theorem dX6_show_143 : decode cX6_show 143 = .ok (.iconst 0, 1) := by decide +kernel
theorem dX6_show_144 : decode cX6_show 144 = .ok (.iadd, 1) := by decide +kernel
theorem dX6_show_145 : decode cX6_show 145 = .ok (.iastore, 1) := by decide +kernel
theorem dX6_show_146 : decode cX6_show 146 = .ok (.iinc 5 1, 3) := by decide +kernel
theorem dX6_show_149 : decode cX6_show 149 = .ok (.goto (-49), 3) := by decide +kernel
theorem dX6_show_152 : decode cX6_show 152 = .ok (.aload_n 0, 1) := by decide +kernel
theorem dX6_show_153 : decode cX6_show 153 = .ok (.getfield 42, 3) := by decide +kernel
theorem dX6_show_156 : decode cX6_show 156 = .ok (.iload_n 1, 1) := by decide +kernel
theorem dX6_show_157 : decode cX6_show 157 = .ok (.iload_n 2, 1) := by decide +kernel
theorem dX6_show_158 : decode cX6_show 158 = .ok (.iastore, 1) := by decide +kernel
theorem dX6_show_159 : decode cX6_show 159 = .ok (.aload_n 0, 1) := by decide +kernel
theorem dX6_show_160 : decode cX6_show 160 = .ok (.getfield 45, 3) := by decide +kernel
theorem dX6_show_163 : decode cX6_show 163 = .ok (.iload_n 1, 1) := by decide +kernel
theorem dX6_show_164 : decode cX6_show 164 = .ok (.aload_n 0, 1) := by decide +kernel
theorem dX6_show_165 : decode cX6_show 165 = .ok (.getfield 13, 3) := by decide +kernel
theorem dX6_show_168 : decode cX6_show 168 = .ok (.iload_n 2, 1) := by decide +kernel
theorem dX6_show_169 : decode cX6_show 169 = .ok (.iaload, 1) := by decide +kernel
theorem dX6_show_170 : decode cX6_show 170 = .ok (.iastore, 1) := by decide +kernel
theorem dX6_show_171 : decode cX6_show 171 = .ok (.aload_n 0, 1) := by decide +kernel
theorem dX6_show_172 : decode cX6_show 172 = .ok (.getfield 48, 3) := by decide +kernel
theorem dX6_show_175 : decode cX6_show 175 = .ok (.iload_n 1, 1) := by decide +kernel
theorem dX6_show_176 : decode cX6_show 176 = .ok (.aload_n 0, 1) := by decide +kernel
theorem dX6_show_177 : decode cX6_show 177 = .ok (.iload_n 2, 1) := by decide +kernel
theorem dX6_show_178 : decode cX6_show 178 = .ok (.iconst 0, 1) := by decide +kernel
theorem dX6_show_179 : decode cX6_show 179 = .ok (.aload_n 0, 1) := by decide +kernel
theorem dX6_show_180 : decode cX6_show 180 = .ok (.getfield 13, 3) := by decide +kernel
theorem dX6_show_183 : decode cX6_show 183 = .ok (.iload_n 2, 1) := by decide +kernel
theorem dX6_show_184 : decode cX6_show 184 = .ok (.iaload, 1) := by decide +kernel
theorem dX6_show_185 : decode cX6_show 185 = .ok (.invokevirtual 101, 3) := by decide +kernel
theorem dX6_show_188 : decode cX6_show 188 = .ok (.iastore, 1) := by decide +kernel
theorem dX6_show_189 : decode cX6_show 189 = .ok (.iconst 1, 1) := by decide +kernel
theorem dX6_show_190 : decode cX6_show 190 = .ok (.ireturn, 1) := by decide +kernel
theorem dX6_gossip_0 : decode cX6_gossip 0 = .ok (.aload_n 0, 1) := by decide +kernel
theorem dX6_gossip_1 : decode cX6_gossip 1 = .ok (.iload_n 1, 1) := by decide +kernel
theorem dX6_gossip_2 : decode cX6_gossip 2 = .ok (.invokestatic 156, 3) := by decide +kernel
theorem dX6_gossip_5 : decode cX6_gossip 5 = .ok (.ifCond .eq 14, 3) := by decide +kernel
theorem dX6_gossip_8 : decode cX6_gossip 8 = .ok (.iload_n 2, 1) := by decide +kernel
theorem dX6_gossip_9 : decode cX6_gossip 9 = .ok (.invokestatic 156, 3) := by decide +kernel
theorem dX6_gossip_12 : decode cX6_gossip 12 = .ok (.ifCond .eq 7, 3) := by decide +kernel
theorem dX6_gossip_15 : decode cX6_gossip 15 = .ok (.iconst 0, 1) := by decide +kernel
theorem dX6_gossip_16 : decode cX6_gossip 16 = .ok (.goto 4, 3) := by decide +kernel
theorem dX6_gossip_19 : decode cX6_gossip 19 = .ok (.iconst 1, 1) := by decide +kernel
theorem dX6_gossip_20 : decode cX6_gossip 20 = .ok (.invokevirtual 87, 3) := by decide +kernel
theorem dX6_gossip_23 : decode cX6_gossip 23 = .ok (.ifCond .ne 5, 3) := by decide +kernel
theorem dX6_gossip_26 : decode cX6_gossip 26 = .ok (.iconst 0, 1) := by decide +kernel
theorem dX6_gossip_27 : decode cX6_gossip 27 = .ok (.ireturn, 1) := by decide +kernel
theorem dX6_gossip_28 : decode cX6_gossip 28 = .ok (.iload_n 1, 1) := by decide +kernel
theorem dX6_gossip_29 : decode cX6_gossip 29 = .ok (.iload_n 2, 1) := by decide +kernel
theorem dX6_gossip_30 : decode cX6_gossip 30 = .ok (.if_icmp .eq 23, 3) := by decide +kernel
theorem dX6_gossip_33 : decode cX6_gossip 33 = .ok (.aload_n 0, 1) := by decide +kernel
theorem dX6_gossip_34 : decode cX6_gossip 34 = .ok (.getfield 45, 3) := by decide +kernel
theorem dX6_gossip_37 : decode cX6_gossip 37 = .ok (.iload_n 1, 1) := by decide +kernel
theorem dX6_gossip_38 : decode cX6_gossip 38 = .ok (.iaload, 1) := by decide +kernel
theorem dX6_gossip_39 : decode cX6_gossip 39 = .ok (.iconst (-1), 1) := by decide +kernel
theorem dX6_gossip_40 : decode cX6_gossip 40 = .ok (.if_icmp .eq 13, 3) := by decide +kernel
theorem dX6_gossip_43 : decode cX6_gossip 43 = .ok (.aload_n 0, 1) := by decide +kernel
theorem dX6_gossip_44 : decode cX6_gossip 44 = .ok (.getfield 45, 3) := by decide +kernel
theorem dX6_gossip_47 : decode cX6_gossip 47 = .ok (.iload_n 2, 1) := by decide +kernel
theorem dX6_gossip_48 : decode cX6_gossip 48 = .ok (.iaload, 1) := by decide +kernel
theorem dX6_gossip_49 : decode cX6_gossip 49 = .ok (.iconst (-1), 1) := by decide +kernel
theorem dX6_gossip_50 : decode cX6_gossip 50 = .ok (.if_icmp .ne 5, 3) := by decide +kernel
theorem dX6_gossip_53 : decode cX6_gossip 53 = .ok (.iconst 1, 1) := by decide +kernel
theorem dX6_gossip_54 : decode cX6_gossip 54 = .ok (.ireturn, 1) := by decide +kernel
theorem dX6_gossip_55 : decode cX6_gossip 55 = .ok (.aload_n 0, 1) := by decide +kernel
theorem dX6_gossip_56 : decode cX6_gossip 56 = .ok (.getfield 45, 3) := by decide +kernel
theorem dX6_gossip_59 : decode cX6_gossip 59 = .ok (.iload_n 2, 1) := by decide +kernel
theorem dX6_gossip_60 : decode cX6_gossip 60 = .ok (.iaload, 1) := by decide +kernel
theorem dX6_gossip_61 : decode cX6_gossip 61 = .ok (.aload_n 0, 1) := by decide +kernel
theorem dX6_gossip_62 : decode cX6_gossip 62 = .ok (.getfield 45, 3) := by decide +kernel
theorem dX6_gossip_65 : decode cX6_gossip 65 = .ok (.iload_n 1, 1) := by decide +kernel
theorem dX6_gossip_66 : decode cX6_gossip 66 = .ok (.iaload, 1) := by decide +kernel
theorem dX6_gossip_67 : decode cX6_gossip 67 = .ok (.if_icmp .le 7, 3) := by decide +kernel
theorem dX6_gossip_70 : decode cX6_gossip 70 = .ok (.iload_n 2, 1) := by decide +kernel
theorem dX6_gossip_71 : decode cX6_gossip 71 = .ok (.goto 4, 3) := by decide +kernel
theorem dX6_gossip_74 : decode cX6_gossip 74 = .ok (.iload_n 1, 1) := by decide +kernel
theorem dX6_gossip_75 : decode cX6_gossip 75 = .ok (.istore_n 3, 1) := by decide +kernel
theorem dX6_gossip_76 : decode cX6_gossip 76 = .ok (.iload_n 3, 1) := by decide +kernel
theorem dX6_gossip_77 : decode cX6_gossip 77 = .ok (.iload_n 1, 1) := by decide +kernel
theorem dX6_gossip_78 : decode cX6_gossip 78 = .ok (.if_icmp .ne 7, 3) := by decide +kernel
theorem dX6_gossip_81 : decode cX6_gossip 81 = .ok (.iload_n 2, 1) := by decide +kernel
theorem dX6_gossip_82 : decode cX6_gossip 82 = .ok (.goto 4, 3) := by decide +kernel
theorem dX6_gossip_85 : decode cX6_gossip 85 = .ok (.iload_n 1, 1) := by decide +kernel
theorem dX6_gossip_86 : decode cX6_gossip 86 = .ok (.istore 4, 2) := by decide +kernel
theorem dX6_gossip_88 : decode cX6_gossip 88 = .ok (.aload_n 0, 1) := by decide +kernel
theorem dX6_gossip_89 : decode cX6_gossip 89 = .ok (.aload_n 0, 1) := by decide +kernel
theorem dX6_gossip_90 : decode cX6_gossip 90 = .ok (.getfield 42, 3) := by decide +kernel
theorem dX6_gossip_93 : decode cX6_gossip 93 = .ok (.iload_n 3, 1) := by decide +kernel
theorem dX6_gossip_94 : decode cX6_gossip 94 = .ok (.iaload, 1) := by decide +kernel
theorem dX6_gossip_95 : decode cX6_gossip 95 = .ok (.iconst 0, 1) := by decide +kernel
theorem dX6_gossip_96 : decode cX6_gossip 96 = .ok (.aload_n 0, 1) := by decide +kernel
theorem dX6_gossip_97 : decode cX6_gossip 97 = .ok (.getfield 45, 3) := by decide +kernel
theorem dX6_gossip_100 : decode cX6_gossip 100 = .ok (.iload 4, 2) := by decide +kernel
theorem dX6_gossip_102 : decode cX6_gossip 102 = .ok (.iaload, 1) := by decide +kernel
theorem dX6_gossip_103 : decode cX6_gossip 103 = .ok (.invokevirtual 101, 3) := by decide +kernel
theorem dX6_gossip_106 : decode cX6_gossip 106 = .ok (.aload_n 0, 1) := by decide +kernel
theorem dX6_gossip_107 : decode cX6_gossip 107 = .ok (.getfield 48, 3) := by decide +kernel
theorem dX6_gossip_110 : decode cX6_gossip 110 = .ok (.iload 4, 2) := by decide +kernel
theorem dX6_gossip_112 : decode cX6_gossip 112 = .ok (.iaload, 1) := by decide +kernel
theorem dX6_gossip_113 : decode cX6_gossip 113 = .ok (.if_icmp .ne 7, 3) := by decide +kernel
theorem dX6_gossip_116 : decode cX6_gossip 116 = .ok (.iconst 1, 1) := by decide +kernel
theorem dX6_gossip_117 : decode cX6_gossip 117 = .ok (.goto 4, 3) := by decide +kernel
theorem dX6_gossip_120 : decode cX6_gossip 120 = .ok (.iconst 0, 1) := by decide +kernel
theorem dX6_gossip_121 : decode cX6_gossip 121 = .ok (.istore 5, 2) := by decide +kernel
theorem dX6_gossip_123 : decode cX6_gossip 123 = .ok (.aload_n 0, 1) := by decide +kernel
theorem dX6_gossip_124 : decode cX6_gossip 124 = .ok (.getfield 51, 3) := by decide +kernel
theorem dX6_gossip_127 : decode cX6_gossip 127 = .ok (.iload_n 1, 1) := by decide +kernel
theorem dX6_gossip_128 : decode cX6_gossip 128 = .ok (.aload_n 0, 1) := by decide +kernel
theorem dX6_gossip_129 : decode cX6_gossip 129 = .ok (.getfield 51, 3) := by decide +kernel
theorem dX6_gossip_132 : decode cX6_gossip 132 = .ok (.iload_n 1, 1) := by decide +kernel
theorem dX6_gossip_133 : decode cX6_gossip 133 = .ok (.baload, 1) := by decide +kernel
theorem dX6_gossip_134 : decode cX6_gossip 134 = .ok (.ifCond .ne 8, 3) := by decide +kernel
theorem dX6_gossip_137 : decode cX6_gossip 137 = .ok (.iload 5, 2) := by decide +kernel
theorem dX6_gossip_139 : decode cX6_gossip 139 = .ok (.ifCond .ne 7, 3) := by decide +kernel
theorem dX6_gossip_142 : decode cX6_gossip 142 = .ok (.iconst 1, 1) := by decide +kernel
theorem dX6_gossip_143 : decode cX6_gossip 143 = .ok (.goto 4, 3) := by decide +kernel
theorem dX6_gossip_146 : decode cX6_gossip 146 = .ok (.iconst 0, 1) := by decide +kernel
theorem dX6_gossip_147 : decode cX6_gossip 147 = .ok (.bastore, 1) := by decide +kernel
theorem dX6_gossip_148 : decode cX6_gossip 148 = .ok (.aload_n 0, 1) := by decide +kernel
theorem dX6_gossip_149 : decode cX6_gossip 149 = .ok (.getfield 51, 3) := by decide +kernel
theorem dX6_gossip_152 : decode cX6_gossip 152 = .ok (.iload_n 2, 1) := by decide +kernel
theorem dX6_gossip_153 : decode cX6_gossip 153 = .ok (.aload_n 0, 1) := by decide +kernel
theorem dX6_gossip_154 : decode cX6_gossip 154 = .ok (.getfield 51, 3) := by decide +kernel
theorem dX6_gossip_157 : decode cX6_gossip 157 = .ok (.iload_n 2, 1) := by decide +kernel
theorem dX6_gossip_158 : decode cX6_gossip 158 = .ok (.baload, 1) := by decide +kernel
theorem dX6_gossip_159 : decode cX6_gossip 159 = .ok (.ifCond .ne 8, 3) := by decide +kernel
theorem dX6_gossip_162 : decode cX6_gossip 162 = .ok (.iload 5, 2) := by decide +kernel
theorem dX6_gossip_164 : decode cX6_gossip 164 = .ok (.ifCond .ne 7, 3) := by decide +kernel
theorem dX6_gossip_167 : decode cX6_gossip 167 = .ok (.iconst 1, 1) := by decide +kernel
theorem dX6_gossip_168 : decode cX6_gossip 168 = .ok (.goto 4, 3) := by decide +kernel
theorem dX6_gossip_171 : decode cX6_gossip 171 = .ok (.iconst 0, 1) := by decide +kernel
theorem dX6_gossip_172 : decode cX6_gossip 172 = .ok (.bastore, 1) := by decide +kernel
theorem dX6_gossip_173 : decode cX6_gossip 173 = .ok (.iload 5, 2) := by decide +kernel
theorem dX6_gossip_175 : decode cX6_gossip 175 = .ok (.ireturn, 1) := by decide +kernel
theorem dX6_follow_0 : decode cX6_follow 0 = .ok (.aload_n 0, 1) := by decide +kernel
theorem dX6_follow_1 : decode cX6_follow 1 = .ok (.iload_n 1, 1) := by decide +kernel
theorem dX6_follow_2 : decode cX6_follow 2 = .ok (.invokestatic 156, 3) := by decide +kernel
theorem dX6_follow_5 : decode cX6_follow 5 = .ok (.ifCond .ne 7, 3) := by decide +kernel
theorem dX6_follow_8 : decode cX6_follow 8 = .ok (.iconst 1, 1) := by decide +kernel
theorem dX6_follow_9 : decode cX6_follow 9 = .ok (.goto 15, 3) := by decide +kernel
theorem dX6_follow_12 : decode cX6_follow 12 = .ok (.iload_n 2, 1) := by decide +kernel
theorem dX6_follow_13 : decode cX6_follow 13 = .ok (.invokestatic 84, 3) := by decide +kernel
theorem dX6_follow_16 : decode cX6_follow 16 = .ok (.ifCond .eq 7, 3) := by decide +kernel
theorem dX6_follow_19 : decode cX6_follow 19 = .ok (.iconst 0, 1) := by decide +kernel
theorem dX6_follow_20 : decode cX6_follow 20 = .ok (.goto 4, 3) := by decide +kernel
theorem dX6_follow_23 : decode cX6_follow 23 = .ok (.iconst 2, 1) := by decide +kernel
theorem dX6_follow_24 : decode cX6_follow 24 = .ok (.invokevirtual 87, 3) := by decide +kernel
theorem dX6_follow_27 : decode cX6_follow 27 = .ok (.ifCond .eq 17, 3) := by decide +kernel
theorem dX6_follow_30 : decode cX6_follow 30 = .ok (.aload_n 0, 1) := by decide +kernel
theorem dX6_follow_31 : decode cX6_follow 31 = .ok (.getfield 54, 3) := by decide +kernel
theorem dX6_follow_34 : decode cX6_follow 34 = .ok (.iload_n 1, 1) := by decide +kernel
theorem dX6_follow_35 : decode cX6_follow 35 = .ok (.iload_n 2, 1) := by decide +kernel
theorem dX6_follow_36 : decode cX6_follow 36 = .ok (.iastore, 1) := by decide +kernel
theorem dX6_follow_37 : decode cX6_follow 37 = .ok (.aload_n 0, 1) := by decide +kernel
theorem dX6_follow_38 : decode cX6_follow 38 = .ok (.getfield 57, 3) := by decide +kernel
theorem dX6_follow_41 : decode cX6_follow 41 = .ok (.iload_n 1, 1) := by decide +kernel
theorem dX6_follow_42 : decode cX6_follow 42 = .ok (.iconst 0, 1) := by decide +kernel
theorem dX6_follow_43 : decode cX6_follow 43 = .ok (.iastore, 1) := by decide +kernel
theorem dX6_follow_44 : decode cX6_follow 44 = .ok (.return_, 1) := by decide +kernel
theorem dX6_isAlarmed_0 : decode cX6_isAlarmed 0 = .ok (.aload_n 0, 1) := by decide +kernel
theorem dX6_isAlarmed_1 : decode cX6_isAlarmed 1 = .ok (.iload_n 1, 1) := by decide +kernel
theorem dX6_isAlarmed_2 : decode cX6_isAlarmed 2 = .ok (.invokestatic 156, 3) := by decide +kernel
theorem dX6_isAlarmed_5 : decode cX6_isAlarmed 5 = .ok (.ifCond .eq 7, 3) := by decide +kernel
theorem dX6_isAlarmed_8 : decode cX6_isAlarmed 8 = .ok (.iconst 0, 1) := by decide +kernel
theorem dX6_isAlarmed_9 : decode cX6_isAlarmed 9 = .ok (.goto 4, 3) := by decide +kernel
theorem dX6_isAlarmed_12 : decode cX6_isAlarmed 12 = .ok (.iconst 1, 1) := by decide +kernel
theorem dX6_isAlarmed_13 : decode cX6_isAlarmed 13 = .ok (.invokevirtual 87, 3) := by decide +kernel
theorem dX6_isAlarmed_16 : decode cX6_isAlarmed 16 = .ok (.ifCond .eq 16, 3) := by decide +kernel
theorem dX6_isAlarmed_19 : decode cX6_isAlarmed 19 = .ok (.aload_n 0, 1) := by decide +kernel
theorem dX6_isAlarmed_20 : decode cX6_isAlarmed 20 = .ok (.getfield 51, 3) := by decide +kernel
theorem dX6_isAlarmed_23 : decode cX6_isAlarmed 23 = .ok (.iload_n 1, 1) := by decide +kernel
theorem dX6_isAlarmed_24 : decode cX6_isAlarmed 24 = .ok (.baload, 1) := by decide +kernel
theorem dX6_isAlarmed_25 : decode cX6_isAlarmed 25 = .ok (.ifCond .eq 7, 3) := by decide +kernel
theorem dX6_isAlarmed_28 : decode cX6_isAlarmed 28 = .ok (.iconst 1, 1) := by decide +kernel
theorem dX6_isAlarmed_29 : decode cX6_isAlarmed 29 = .ok (.goto 4, 3) := by decide +kernel
theorem dX6_isAlarmed_32 : decode cX6_isAlarmed 32 = .ok (.iconst 0, 1) := by decide +kernel
theorem dX6_isAlarmed_33 : decode cX6_isAlarmed 33 = .ok (.ireturn, 1) := by decide +kernel
theorem dX6_keptSize_0 : decode cX6_keptSize 0 = .ok (.aload_n 0, 1) := by decide +kernel
theorem dX6_keptSize_1 : decode cX6_keptSize 1 = .ok (.iload_n 1, 1) := by decide +kernel
theorem dX6_keptSize_2 : decode cX6_keptSize 2 = .ok (.invokestatic 156, 3) := by decide +kernel
theorem dX6_keptSize_5 : decode cX6_keptSize 5 = .ok (.ifCond .eq 7, 3) := by decide +kernel
theorem dX6_keptSize_8 : decode cX6_keptSize 8 = .ok (.iconst 0, 1) := by decide +kernel
theorem dX6_keptSize_9 : decode cX6_keptSize 9 = .ok (.goto 4, 3) := by decide +kernel
theorem dX6_keptSize_12 : decode cX6_keptSize 12 = .ok (.iconst 1, 1) := by decide +kernel
theorem dX6_keptSize_13 : decode cX6_keptSize 13 = .ok (.invokevirtual 87, 3) := by decide +kernel
theorem dX6_keptSize_16 : decode cX6_keptSize 16 = .ok (.ifCond .eq 12, 3) := by decide +kernel
theorem dX6_keptSize_19 : decode cX6_keptSize 19 = .ok (.aload_n 0, 1) := by decide +kernel
theorem dX6_keptSize_20 : decode cX6_keptSize 20 = .ok (.getfield 45, 3) := by decide +kernel
theorem dX6_keptSize_23 : decode cX6_keptSize 23 = .ok (.iload_n 1, 1) := by decide +kernel
theorem dX6_keptSize_24 : decode cX6_keptSize 24 = .ok (.iaload, 1) := by decide +kernel
theorem dX6_keptSize_25 : decode cX6_keptSize 25 = .ok (.goto 4, 3) := by decide +kernel
theorem dX6_keptSize_28 : decode cX6_keptSize 28 = .ok (.iconst 0, 1) := by decide +kernel
theorem dX6_keptSize_29 : decode cX6_keptSize 29 = .ok (.ireturn, 1) := by decide +kernel
theorem dX6_keptRoot_0 : decode cX6_keptRoot 0 = .ok (.aload_n 0, 1) := by decide +kernel
theorem dX6_keptRoot_1 : decode cX6_keptRoot 1 = .ok (.iload_n 1, 1) := by decide +kernel
theorem dX6_keptRoot_2 : decode cX6_keptRoot 2 = .ok (.invokestatic 156, 3) := by decide +kernel
theorem dX6_keptRoot_5 : decode cX6_keptRoot 5 = .ok (.ifCond .eq 7, 3) := by decide +kernel
theorem dX6_keptRoot_8 : decode cX6_keptRoot 8 = .ok (.iconst 0, 1) := by decide +kernel
theorem dX6_keptRoot_9 : decode cX6_keptRoot 9 = .ok (.goto 4, 3) := by decide +kernel
theorem dX6_keptRoot_12 : decode cX6_keptRoot 12 = .ok (.iconst 1, 1) := by decide +kernel
theorem dX6_keptRoot_13 : decode cX6_keptRoot 13 = .ok (.invokevirtual 87, 3) := by decide +kernel
theorem dX6_keptRoot_16 : decode cX6_keptRoot 16 = .ok (.ifCond .eq 12, 3) := by decide +kernel
theorem dX6_keptRoot_19 : decode cX6_keptRoot 19 = .ok (.aload_n 0, 1) := by decide +kernel
theorem dX6_keptRoot_20 : decode cX6_keptRoot 20 = .ok (.getfield 48, 3) := by decide +kernel
theorem dX6_keptRoot_23 : decode cX6_keptRoot 23 = .ok (.iload_n 1, 1) := by decide +kernel
theorem dX6_keptRoot_24 : decode cX6_keptRoot 24 = .ok (.iaload, 1) := by decide +kernel
theorem dX6_keptRoot_25 : decode cX6_keptRoot 25 = .ok (.goto 4, 3) := by decide +kernel
theorem dX6_keptRoot_28 : decode cX6_keptRoot 28 = .ok (.iconst 0, 1) := by decide +kernel
theorem dX6_keptRoot_29 : decode cX6_keptRoot 29 = .ok (.ireturn, 1) := by decide +kernel
theorem dX6_counted_0 : decode cX6_counted 0 = .ok (.aload_n 0, 1) := by decide +kernel
theorem dX6_counted_1 : decode cX6_counted 1 = .ok (.iload_n 1, 1) := by decide +kernel
theorem dX6_counted_2 : decode cX6_counted 2 = .ok (.invokestatic 156, 3) := by decide +kernel
theorem dX6_counted_5 : decode cX6_counted 5 = .ok (.ifCond .eq 7, 3) := by decide +kernel
theorem dX6_counted_8 : decode cX6_counted 8 = .ok (.iconst 0, 1) := by decide +kernel
theorem dX6_counted_9 : decode cX6_counted 9 = .ok (.goto 4, 3) := by decide +kernel
theorem dX6_counted_12 : decode cX6_counted 12 = .ok (.iconst 1, 1) := by decide +kernel
theorem dX6_counted_13 : decode cX6_counted 13 = .ok (.invokevirtual 87, 3) := by decide +kernel
theorem dX6_counted_16 : decode cX6_counted 16 = .ok (.ifCond .eq 12, 3) := by decide +kernel
theorem dX6_counted_19 : decode cX6_counted 19 = .ok (.aload_n 0, 1) := by decide +kernel
theorem dX6_counted_20 : decode cX6_counted 20 = .ok (.getfield 57, 3) := by decide +kernel
theorem dX6_counted_23 : decode cX6_counted 23 = .ok (.iload_n 1, 1) := by decide +kernel
theorem dX6_counted_24 : decode cX6_counted 24 = .ok (.iaload, 1) := by decide +kernel
theorem dX6_counted_25 : decode cX6_counted 25 = .ok (.goto 4, 3) := by decide +kernel
theorem dX6_counted_28 : decode cX6_counted 28 = .ok (.iconst 0, 1) := by decide +kernel
theorem dX6_counted_29 : decode cX6_counted 29 = .ok (.ireturn, 1) := by decide +kernel
end
section
theorem dL_append_0 : decode cL_append 0 = .ok (.aload_n 3, 1) := by decide +kernel
theorem dL_append_1 : decode cL_append 1 = .ok (.iconst 0, 1) := by decide +kernel
theorem dL_append_2 : decode cL_append 2 = .ok (.aload_n 0, 1) := by decide +kernel
theorem dL_append_3 : decode cL_append 3 = .ok (.iload_n 1, 1) := by decide +kernel
theorem dL_append_4 : decode cL_append 4 = .ok (.iload_n 2, 1) := by decide +kernel
theorem dL_append_5 : decode cL_append 5 = .ok (.invokevirtual 7, 3) := by decide +kernel
theorem dL_append_8 : decode cL_append 8 = .ok (.i2l, 1) := by decide +kernel
theorem dL_append_9 : decode cL_append 9 = .ok (.lastore, 1) := by decide +kernel
theorem dL_append_10 : decode cL_append 10 = .ok (.goto 15, 3) := by decide +kernel
theorem dL_append_13 : decode cL_append 13 = .ok (.astore 4, 2) := by decide +kernel
theorem dL_append_15 : decode cL_append 15 = .ok (.iconst 1, 1) := by decide +kernel
theorem dL_append_16 : decode cL_append 16 = .ok (.ireturn, 1) := by decide +kernel
theorem dL_append_17 : decode cL_append 17 = .ok (.astore 4, 2) := by decide +kernel
theorem dL_append_19 : decode cL_append 19 = .ok (.iconst 2, 1) := by decide +kernel
theorem dL_append_20 : decode cL_append 20 = .ok (.ireturn, 1) := by decide +kernel
theorem dL_append_21 : decode cL_append 21 = .ok (.astore 4, 2) := by decide +kernel
theorem dL_append_23 : decode cL_append 23 = .ok (.iconst 3, 1) := by decide +kernel
theorem dL_append_24 : decode cL_append 24 = .ok (.ireturn, 1) := by decide +kernel
theorem dL_append_25 : decode cL_append 25 = .ok (.iconst 0, 1) := by decide +kernel
theorem dL_append_26 : decode cL_append 26 = .ok (.ireturn, 1) := by decide +kernel
theorem dL_appendRow_0 : decode cL_appendRow 0 = .ok (.aload 4, 2) := by decide +kernel
theorem dL_appendRow_2 : decode cL_appendRow 2 = .ok (.iconst 0, 1) := by decide +kernel
theorem dL_appendRow_3 : decode cL_appendRow 3 = .ok (.aload_n 0, 1) := by decide +kernel
theorem dL_appendRow_4 : decode cL_appendRow 4 = .ok (.iload_n 1, 1) := by decide +kernel
theorem dL_appendRow_5 : decode cL_appendRow 5 = .ok (.iload_n 2, 1) := by decide +kernel
theorem dL_appendRow_6 : decode cL_appendRow 6 = .ok (.iload_n 3, 1) := by decide +kernel
theorem dL_appendRow_7 : decode cL_appendRow 7 = .ok (.invokevirtual 19, 3) := by decide +kernel
theorem dL_appendRow_10 : decode cL_appendRow 10 = .ok (.i2l, 1) := by decide +kernel
theorem dL_appendRow_11 : decode cL_appendRow 11 = .ok (.lastore, 1) := by decide +kernel
theorem dL_appendRow_12 : decode cL_appendRow 12 = .ok (.goto 15, 3) := by decide +kernel
theorem dL_appendRow_15 : decode cL_appendRow 15 = .ok (.astore 5, 2) := by decide +kernel
theorem dL_appendRow_17 : decode cL_appendRow 17 = .ok (.iconst 1, 1) := by decide +kernel
theorem dL_appendRow_18 : decode cL_appendRow 18 = .ok (.ireturn, 1) := by decide +kernel
theorem dL_appendRow_19 : decode cL_appendRow 19 = .ok (.astore 5, 2) := by decide +kernel
theorem dL_appendRow_21 : decode cL_appendRow 21 = .ok (.iconst 2, 1) := by decide +kernel
theorem dL_appendRow_22 : decode cL_appendRow 22 = .ok (.ireturn, 1) := by decide +kernel
theorem dL_appendRow_23 : decode cL_appendRow 23 = .ok (.astore 5, 2) := by decide +kernel
theorem dL_appendRow_25 : decode cL_appendRow 25 = .ok (.iconst 3, 1) := by decide +kernel
theorem dL_appendRow_26 : decode cL_appendRow 26 = .ok (.ireturn, 1) := by decide +kernel
theorem dL_appendRow_27 : decode cL_appendRow 27 = .ok (.iconst 0, 1) := by decide +kernel
theorem dL_appendRow_28 : decode cL_appendRow 28 = .ok (.ireturn, 1) := by decide +kernel
theorem dL_fork_0 : decode cL_fork 0 = .ok (.aload_n 3, 1) := by decide +kernel
theorem dL_fork_1 : decode cL_fork 1 = .ok (.iconst 0, 1) := by decide +kernel
theorem dL_fork_2 : decode cL_fork 2 = .ok (.aload_n 0, 1) := by decide +kernel
theorem dL_fork_3 : decode cL_fork 3 = .ok (.iload_n 1, 1) := by decide +kernel
theorem dL_fork_4 : decode cL_fork 4 = .ok (.iload_n 2, 1) := by decide +kernel
theorem dL_fork_5 : decode cL_fork 5 = .ok (.invokevirtual 23, 3) := by decide +kernel
theorem dL_fork_8 : decode cL_fork 8 = .ok (.i2l, 1) := by decide +kernel
theorem dL_fork_9 : decode cL_fork 9 = .ok (.lastore, 1) := by decide +kernel
theorem dL_fork_10 : decode cL_fork 10 = .ok (.goto 15, 3) := by decide +kernel
theorem dL_fork_13 : decode cL_fork 13 = .ok (.astore 4, 2) := by decide +kernel
theorem dL_fork_15 : decode cL_fork 15 = .ok (.iconst 1, 1) := by decide +kernel
theorem dL_fork_16 : decode cL_fork 16 = .ok (.ireturn, 1) := by decide +kernel
theorem dL_fork_17 : decode cL_fork 17 = .ok (.astore 4, 2) := by decide +kernel
theorem dL_fork_19 : decode cL_fork 19 = .ok (.iconst 2, 1) := by decide +kernel
theorem dL_fork_20 : decode cL_fork 20 = .ok (.ireturn, 1) := by decide +kernel
theorem dL_fork_21 : decode cL_fork 21 = .ok (.astore 4, 2) := by decide +kernel
theorem dL_fork_23 : decode cL_fork 23 = .ok (.iconst 3, 1) := by decide +kernel
theorem dL_fork_24 : decode cL_fork 24 = .ok (.ireturn, 1) := by decide +kernel
theorem dL_fork_25 : decode cL_fork 25 = .ok (.iconst 0, 1) := by decide +kernel
theorem dL_fork_26 : decode cL_fork 26 = .ok (.ireturn, 1) := by decide +kernel
theorem dL_size_0 : decode cL_size 0 = .ok (.aload_n 2, 1) := by decide +kernel
theorem dL_size_1 : decode cL_size 1 = .ok (.iconst 0, 1) := by decide +kernel
theorem dL_size_2 : decode cL_size 2 = .ok (.aload_n 0, 1) := by decide +kernel
theorem dL_size_3 : decode cL_size 3 = .ok (.iload_n 1, 1) := by decide +kernel
theorem dL_size_4 : decode cL_size 4 = .ok (.invokevirtual 26, 3) := by decide +kernel
theorem dL_size_7 : decode cL_size 7 = .ok (.i2l, 1) := by decide +kernel
theorem dL_size_8 : decode cL_size 8 = .ok (.lastore, 1) := by decide +kernel
theorem dL_size_9 : decode cL_size 9 = .ok (.goto 6, 3) := by decide +kernel
theorem dL_size_12 : decode cL_size 12 = .ok (.astore_n 3, 1) := by decide +kernel
theorem dL_size_13 : decode cL_size 13 = .ok (.iconst 1, 1) := by decide +kernel
theorem dL_size_14 : decode cL_size 14 = .ok (.ireturn, 1) := by decide +kernel
theorem dL_size_15 : decode cL_size 15 = .ok (.iconst 0, 1) := by decide +kernel
theorem dL_size_16 : decode cL_size 16 = .ok (.ireturn, 1) := by decide +kernel
theorem dL_leaf_0 : decode cL_leaf 0 = .ok (.aload_n 3, 1) := by decide +kernel
theorem dL_leaf_1 : decode cL_leaf 1 = .ok (.iconst 0, 1) := by decide +kernel
theorem dL_leaf_2 : decode cL_leaf 2 = .ok (.aload_n 0, 1) := by decide +kernel
theorem dL_leaf_3 : decode cL_leaf 3 = .ok (.iload_n 1, 1) := by decide +kernel
theorem dL_leaf_4 : decode cL_leaf 4 = .ok (.iload_n 2, 1) := by decide +kernel
theorem dL_leaf_5 : decode cL_leaf 5 = .ok (.invokevirtual 30, 3) := by decide +kernel
theorem dL_leaf_8 : decode cL_leaf 8 = .ok (.i2l, 1) := by decide +kernel
theorem dL_leaf_9 : decode cL_leaf 9 = .ok (.lastore, 1) := by decide +kernel
theorem dL_leaf_10 : decode cL_leaf 10 = .ok (.goto 7, 3) := by decide +kernel
theorem dL_leaf_13 : decode cL_leaf 13 = .ok (.astore 4, 2) := by decide +kernel
theorem dL_leaf_15 : decode cL_leaf 15 = .ok (.iconst 1, 1) := by decide +kernel
theorem dL_leaf_16 : decode cL_leaf 16 = .ok (.ireturn, 1) := by decide +kernel
theorem dL_leaf_17 : decode cL_leaf 17 = .ok (.iconst 0, 1) := by decide +kernel
theorem dL_leaf_18 : decode cL_leaf 18 = .ok (.ireturn, 1) := by decide +kernel
theorem dL_root_0 : decode cL_root 0 = .ok (.aload_n 3, 1) := by decide +kernel
theorem dL_root_1 : decode cL_root 1 = .ok (.iconst 0, 1) := by decide +kernel
theorem dL_root_2 : decode cL_root 2 = .ok (.aload_n 0, 1) := by decide +kernel
theorem dL_root_3 : decode cL_root 3 = .ok (.iload_n 1, 1) := by decide +kernel
theorem dL_root_4 : decode cL_root 4 = .ok (.iload_n 2, 1) := by decide +kernel
theorem dL_root_5 : decode cL_root 5 = .ok (.invokevirtual 33, 3) := by decide +kernel
theorem dL_root_8 : decode cL_root 8 = .ok (.i2l, 1) := by decide +kernel
theorem dL_root_9 : decode cL_root 9 = .ok (.lastore, 1) := by decide +kernel
theorem dL_root_10 : decode cL_root 10 = .ok (.goto 11, 3) := by decide +kernel
theorem dL_root_13 : decode cL_root 13 = .ok (.astore 4, 2) := by decide +kernel
theorem dL_root_15 : decode cL_root 15 = .ok (.iconst 1, 1) := by decide +kernel
theorem dL_root_16 : decode cL_root 16 = .ok (.ireturn, 1) := by decide +kernel
theorem dL_root_17 : decode cL_root 17 = .ok (.astore 4, 2) := by decide +kernel
theorem dL_root_19 : decode cL_root 19 = .ok (.iconst 2, 1) := by decide +kernel
theorem dL_root_20 : decode cL_root 20 = .ok (.ireturn, 1) := by decide +kernel
theorem dL_root_21 : decode cL_root 21 = .ok (.iconst 0, 1) := by decide +kernel
theorem dL_root_22 : decode cL_root 22 = .ok (.ireturn, 1) := by decide +kernel
theorem dL_rootAnew_0 : decode cL_rootAnew 0 = .ok (.aload_n 3, 1) := by decide +kernel
theorem dL_rootAnew_1 : decode cL_rootAnew 1 = .ok (.iconst 0, 1) := by decide +kernel
theorem dL_rootAnew_2 : decode cL_rootAnew 2 = .ok (.aload_n 0, 1) := by decide +kernel
theorem dL_rootAnew_3 : decode cL_rootAnew 3 = .ok (.iload_n 1, 1) := by decide +kernel
theorem dL_rootAnew_4 : decode cL_rootAnew 4 = .ok (.iload_n 2, 1) := by decide +kernel
theorem dL_rootAnew_5 : decode cL_rootAnew 5 = .ok (.invokevirtual 36, 3) := by decide +kernel
theorem dL_rootAnew_8 : decode cL_rootAnew 8 = .ok (.i2l, 1) := by decide +kernel
theorem dL_rootAnew_9 : decode cL_rootAnew 9 = .ok (.lastore, 1) := by decide +kernel
theorem dL_rootAnew_10 : decode cL_rootAnew 10 = .ok (.goto 11, 3) := by decide +kernel
theorem dL_rootAnew_13 : decode cL_rootAnew 13 = .ok (.astore 4, 2) := by decide +kernel
theorem dL_rootAnew_15 : decode cL_rootAnew 15 = .ok (.iconst 1, 1) := by decide +kernel
theorem dL_rootAnew_16 : decode cL_rootAnew 16 = .ok (.ireturn, 1) := by decide +kernel
theorem dL_rootAnew_17 : decode cL_rootAnew 17 = .ok (.astore 4, 2) := by decide +kernel
theorem dL_rootAnew_19 : decode cL_rootAnew 19 = .ok (.iconst 2, 1) := by decide +kernel
theorem dL_rootAnew_20 : decode cL_rootAnew 20 = .ok (.ireturn, 1) := by decide +kernel
theorem dL_rootAnew_21 : decode cL_rootAnew 21 = .ok (.iconst 0, 1) := by decide +kernel
theorem dL_rootAnew_22 : decode cL_rootAnew 22 = .ok (.ireturn, 1) := by decide +kernel
theorem dL_loadLeaf_0 : decode cL_loadLeaf 0 = .ok (.aload 4, 2) := by decide +kernel
theorem dL_loadLeaf_2 : decode cL_loadLeaf 2 = .ok (.iconst 0, 1) := by decide +kernel
theorem dL_loadLeaf_3 : decode cL_loadLeaf 3 = .ok (.aload_n 0, 1) := by decide +kernel
theorem dL_loadLeaf_4 : decode cL_loadLeaf 4 = .ok (.iload_n 1, 1) := by decide +kernel
theorem dL_loadLeaf_5 : decode cL_loadLeaf 5 = .ok (.iload_n 2, 1) := by decide +kernel
theorem dL_loadLeaf_6 : decode cL_loadLeaf 6 = .ok (.iload_n 3, 1) := by decide +kernel
theorem dL_loadLeaf_7 : decode cL_loadLeaf 7 = .ok (.invokevirtual 39, 3) := by decide +kernel
theorem dL_loadLeaf_10 : decode cL_loadLeaf 10 = .ok (.i2l, 1) := by decide +kernel
theorem dL_loadLeaf_11 : decode cL_loadLeaf 11 = .ok (.lastore, 1) := by decide +kernel
theorem dL_loadLeaf_12 : decode cL_loadLeaf 12 = .ok (.goto 11, 3) := by decide +kernel
theorem dL_loadLeaf_15 : decode cL_loadLeaf 15 = .ok (.astore 5, 2) := by decide +kernel
theorem dL_loadLeaf_17 : decode cL_loadLeaf 17 = .ok (.iconst 1, 1) := by decide +kernel
theorem dL_loadLeaf_18 : decode cL_loadLeaf 18 = .ok (.ireturn, 1) := by decide +kernel
theorem dL_loadLeaf_19 : decode cL_loadLeaf 19 = .ok (.astore 5, 2) := by decide +kernel
theorem dL_loadLeaf_21 : decode cL_loadLeaf 21 = .ok (.iconst 2, 1) := by decide +kernel
theorem dL_loadLeaf_22 : decode cL_loadLeaf 22 = .ok (.ireturn, 1) := by decide +kernel
theorem dL_loadLeaf_23 : decode cL_loadLeaf 23 = .ok (.iconst 0, 1) := by decide +kernel
theorem dL_loadLeaf_24 : decode cL_loadLeaf 24 = .ok (.ireturn, 1) := by decide +kernel
theorem dL_loadGrowth_0 : decode cL_loadGrowth 0 = .ok (.aload 4, 2) := by decide +kernel
theorem dL_loadGrowth_2 : decode cL_loadGrowth 2 = .ok (.iconst 0, 1) := by decide +kernel
theorem dL_loadGrowth_3 : decode cL_loadGrowth 3 = .ok (.aload_n 0, 1) := by decide +kernel
theorem dL_loadGrowth_4 : decode cL_loadGrowth 4 = .ok (.iload_n 1, 1) := by decide +kernel
theorem dL_loadGrowth_5 : decode cL_loadGrowth 5 = .ok (.iload_n 2, 1) := by decide +kernel
theorem dL_loadGrowth_6 : decode cL_loadGrowth 6 = .ok (.iload_n 3, 1) := by decide +kernel
theorem dL_loadGrowth_7 : decode cL_loadGrowth 7 = .ok (.invokevirtual 42, 3) := by decide +kernel
theorem dL_loadGrowth_10 : decode cL_loadGrowth 10 = .ok (.i2l, 1) := by decide +kernel
theorem dL_loadGrowth_11 : decode cL_loadGrowth 11 = .ok (.lastore, 1) := by decide +kernel
theorem dL_loadGrowth_12 : decode cL_loadGrowth 12 = .ok (.goto 11, 3) := by decide +kernel
theorem dL_loadGrowth_15 : decode cL_loadGrowth 15 = .ok (.astore 5, 2) := by decide +kernel
theorem dL_loadGrowth_17 : decode cL_loadGrowth 17 = .ok (.iconst 1, 1) := by decide +kernel
theorem dL_loadGrowth_18 : decode cL_loadGrowth 18 = .ok (.ireturn, 1) := by decide +kernel
theorem dL_loadGrowth_19 : decode cL_loadGrowth 19 = .ok (.astore 5, 2) := by decide +kernel
theorem dL_loadGrowth_21 : decode cL_loadGrowth 21 = .ok (.iconst 2, 1) := by decide +kernel
theorem dL_loadGrowth_22 : decode cL_loadGrowth 22 = .ok (.ireturn, 1) := by decide +kernel
theorem dL_loadGrowth_23 : decode cL_loadGrowth 23 = .ok (.iconst 0, 1) := by decide +kernel
theorem dL_loadGrowth_24 : decode cL_loadGrowth 24 = .ok (.ireturn, 1) := by decide +kernel
theorem dL_loadKey_0 : decode cL_loadKey 0 = .ok (.aload_n 2, 1) := by decide +kernel
theorem dL_loadKey_1 : decode cL_loadKey 1 = .ok (.iconst 0, 1) := by decide +kernel
theorem dL_loadKey_2 : decode cL_loadKey 2 = .ok (.aload_n 0, 1) := by decide +kernel
theorem dL_loadKey_3 : decode cL_loadKey 3 = .ok (.iload_n 1, 1) := by decide +kernel
theorem dL_loadKey_4 : decode cL_loadKey 4 = .ok (.invokevirtual 45, 3) := by decide +kernel
theorem dL_loadKey_7 : decode cL_loadKey 7 = .ok (.i2l, 1) := by decide +kernel
theorem dL_loadKey_8 : decode cL_loadKey 8 = .ok (.lastore, 1) := by decide +kernel
theorem dL_loadKey_9 : decode cL_loadKey 9 = .ok (.goto 6, 3) := by decide +kernel
theorem dL_loadKey_12 : decode cL_loadKey 12 = .ok (.astore_n 3, 1) := by decide +kernel
theorem dL_loadKey_13 : decode cL_loadKey 13 = .ok (.iconst 1, 1) := by decide +kernel
theorem dL_loadKey_14 : decode cL_loadKey 14 = .ok (.ireturn, 1) := by decide +kernel
theorem dL_loadKey_15 : decode cL_loadKey 15 = .ok (.iconst 0, 1) := by decide +kernel
theorem dL_loadKey_16 : decode cL_loadKey 16 = .ok (.ireturn, 1) := by decide +kernel
theorem dL_change_0 : decode cL_change 0 = .ok (.aload_n 3, 1) := by decide +kernel
theorem dL_change_1 : decode cL_change 1 = .ok (.iconst 0, 1) := by decide +kernel
theorem dL_change_2 : decode cL_change 2 = .ok (.aload_n 0, 1) := by decide +kernel
theorem dL_change_3 : decode cL_change 3 = .ok (.iload_n 1, 1) := by decide +kernel
theorem dL_change_4 : decode cL_change 4 = .ok (.iload_n 2, 1) := by decide +kernel
theorem dL_change_5 : decode cL_change 5 = .ok (.invokevirtual 48, 3) := by decide +kernel
theorem dL_change_8 : decode cL_change 8 = .ok (.i2l, 1) := by decide +kernel
theorem dL_change_9 : decode cL_change 9 = .ok (.lastore, 1) := by decide +kernel
theorem dL_change_10 : decode cL_change 10 = .ok (.goto 15, 3) := by decide +kernel
theorem dL_change_13 : decode cL_change 13 = .ok (.astore 4, 2) := by decide +kernel
theorem dL_change_15 : decode cL_change 15 = .ok (.iconst 1, 1) := by decide +kernel
theorem dL_change_16 : decode cL_change 16 = .ok (.ireturn, 1) := by decide +kernel
theorem dL_change_17 : decode cL_change 17 = .ok (.astore 4, 2) := by decide +kernel
theorem dL_change_19 : decode cL_change 19 = .ok (.iconst 2, 1) := by decide +kernel
theorem dL_change_20 : decode cL_change 20 = .ok (.ireturn, 1) := by decide +kernel
theorem dL_change_21 : decode cL_change 21 = .ok (.astore 4, 2) := by decide +kernel
theorem dL_change_23 : decode cL_change 23 = .ok (.iconst 3, 1) := by decide +kernel
theorem dL_change_24 : decode cL_change 24 = .ok (.ireturn, 1) := by decide +kernel
theorem dL_change_25 : decode cL_change 25 = .ok (.iconst 0, 1) := by decide +kernel
theorem dL_change_26 : decode cL_change 26 = .ok (.ireturn, 1) := by decide +kernel
theorem dL_shorten_0 : decode cL_shorten 0 = .ok (.aload_n 1, 1) := by decide +kernel
theorem dL_shorten_1 : decode cL_shorten 1 = .ok (.iconst 0, 1) := by decide +kernel
theorem dL_shorten_2 : decode cL_shorten 2 = .ok (.aload_n 0, 1) := by decide +kernel
theorem dL_shorten_3 : decode cL_shorten 3 = .ok (.invokevirtual 51, 3) := by decide +kernel
theorem dL_shorten_6 : decode cL_shorten 6 = .ok (.i2l, 1) := by decide +kernel
theorem dL_shorten_7 : decode cL_shorten 7 = .ok (.lastore, 1) := by decide +kernel
theorem dL_shorten_8 : decode cL_shorten 8 = .ok (.goto 6, 3) := by decide +kernel
theorem dL_shorten_11 : decode cL_shorten 11 = .ok (.astore_n 2, 1) := by decide +kernel
theorem dL_shorten_12 : decode cL_shorten 12 = .ok (.iconst 1, 1) := by decide +kernel
theorem dL_shorten_13 : decode cL_shorten 13 = .ok (.ireturn, 1) := by decide +kernel
theorem dL_shorten_14 : decode cL_shorten 14 = .ok (.iconst 0, 1) := by decide +kernel
theorem dL_shorten_15 : decode cL_shorten 15 = .ok (.ireturn, 1) := by decide +kernel
theorem dL_sumAt_0 : decode cL_sumAt 0 = .ok (.aload_n 2, 1) := by decide +kernel
theorem dL_sumAt_1 : decode cL_sumAt 1 = .ok (.iconst 0, 1) := by decide +kernel
theorem dL_sumAt_2 : decode cL_sumAt 2 = .ok (.aload_n 0, 1) := by decide +kernel
theorem dL_sumAt_3 : decode cL_sumAt 3 = .ok (.iload_n 1, 1) := by decide +kernel
theorem dL_sumAt_4 : decode cL_sumAt 4 = .ok (.invokevirtual 55, 3) := by decide +kernel
theorem dL_sumAt_7 : decode cL_sumAt 7 = .ok (.i2l, 1) := by decide +kernel
theorem dL_sumAt_8 : decode cL_sumAt 8 = .ok (.lastore, 1) := by decide +kernel
theorem dL_sumAt_9 : decode cL_sumAt 9 = .ok (.goto 6, 3) := by decide +kernel
theorem dL_sumAt_12 : decode cL_sumAt 12 = .ok (.astore_n 3, 1) := by decide +kernel
theorem dL_sumAt_13 : decode cL_sumAt 13 = .ok (.iconst 1, 1) := by decide +kernel
theorem dL_sumAt_14 : decode cL_sumAt 14 = .ok (.ireturn, 1) := by decide +kernel
theorem dL_sumAt_15 : decode cL_sumAt 15 = .ok (.iconst 0, 1) := by decide +kernel
theorem dL_sumAt_16 : decode cL_sumAt 16 = .ok (.ireturn, 1) := by decide +kernel
theorem dL_testLeaf_0 : decode cL_testLeaf 0 = .ok (.aload 5, 2) := by decide +kernel
theorem dL_testLeaf_2 : decode cL_testLeaf 2 = .ok (.iconst 0, 1) := by decide +kernel
theorem dL_testLeaf_3 : decode cL_testLeaf 3 = .ok (.aload_n 0, 1) := by decide +kernel
theorem dL_testLeaf_4 : decode cL_testLeaf 4 = .ok (.iload_n 1, 1) := by decide +kernel
theorem dL_testLeaf_5 : decode cL_testLeaf 5 = .ok (.iload_n 2, 1) := by decide +kernel
theorem dL_testLeaf_6 : decode cL_testLeaf 6 = .ok (.iload_n 3, 1) := by decide +kernel
theorem dL_testLeaf_7 : decode cL_testLeaf 7 = .ok (.iload 4, 2) := by decide +kernel
theorem dL_testLeaf_9 : decode cL_testLeaf 9 = .ok (.invokevirtual 58, 3) := by decide +kernel
theorem dL_testLeaf_12 : decode cL_testLeaf 12 = .ok (.ifCond .eq 7, 3) := by decide +kernel
theorem dL_testLeaf_15 : decode cL_testLeaf 15 = .ok (.lconst 1, 1) := by decide +kernel
theorem dL_testLeaf_16 : decode cL_testLeaf 16 = .ok (.goto 4, 3) := by decide +kernel
theorem dL_testLeaf_19 : decode cL_testLeaf 19 = .ok (.lconst 0, 1) := by decide +kernel
theorem dL_testLeaf_20 : decode cL_testLeaf 20 = .ok (.lastore, 1) := by decide +kernel
theorem dL_testLeaf_21 : decode cL_testLeaf 21 = .ok (.goto 11, 3) := by decide +kernel
theorem dL_testLeaf_24 : decode cL_testLeaf 24 = .ok (.astore 6, 2) := by decide +kernel
theorem dL_testLeaf_26 : decode cL_testLeaf 26 = .ok (.iconst 1, 1) := by decide +kernel
theorem dL_testLeaf_27 : decode cL_testLeaf 27 = .ok (.ireturn, 1) := by decide +kernel
theorem dL_testLeaf_28 : decode cL_testLeaf 28 = .ok (.astore 6, 2) := by decide +kernel
theorem dL_testLeaf_30 : decode cL_testLeaf 30 = .ok (.iconst 2, 1) := by decide +kernel
theorem dL_testLeaf_31 : decode cL_testLeaf 31 = .ok (.ireturn, 1) := by decide +kernel
theorem dL_testLeaf_32 : decode cL_testLeaf 32 = .ok (.iconst 0, 1) := by decide +kernel
theorem dL_testLeaf_33 : decode cL_testLeaf 33 = .ok (.ireturn, 1) := by decide +kernel
theorem dL_testGrowth_0 : decode cL_testGrowth 0 = .ok (.aload 5, 2) := by decide +kernel
theorem dL_testGrowth_2 : decode cL_testGrowth 2 = .ok (.iconst 0, 1) := by decide +kernel
theorem dL_testGrowth_3 : decode cL_testGrowth 3 = .ok (.aload_n 0, 1) := by decide +kernel
theorem dL_testGrowth_4 : decode cL_testGrowth 4 = .ok (.iload_n 1, 1) := by decide +kernel
theorem dL_testGrowth_5 : decode cL_testGrowth 5 = .ok (.iload_n 2, 1) := by decide +kernel
theorem dL_testGrowth_6 : decode cL_testGrowth 6 = .ok (.iload_n 3, 1) := by decide +kernel
theorem dL_testGrowth_7 : decode cL_testGrowth 7 = .ok (.iload 4, 2) := by decide +kernel
theorem dL_testGrowth_9 : decode cL_testGrowth 9 = .ok (.invokevirtual 62, 3) := by decide +kernel
theorem dL_testGrowth_12 : decode cL_testGrowth 12 = .ok (.ifCond .eq 7, 3) := by decide +kernel
theorem dL_testGrowth_15 : decode cL_testGrowth 15 = .ok (.lconst 1, 1) := by decide +kernel
theorem dL_testGrowth_16 : decode cL_testGrowth 16 = .ok (.goto 4, 3) := by decide +kernel
theorem dL_testGrowth_19 : decode cL_testGrowth 19 = .ok (.lconst 0, 1) := by decide +kernel
theorem dL_testGrowth_20 : decode cL_testGrowth 20 = .ok (.lastore, 1) := by decide +kernel
theorem dL_testGrowth_21 : decode cL_testGrowth 21 = .ok (.goto 11, 3) := by decide +kernel
theorem dL_testGrowth_24 : decode cL_testGrowth 24 = .ok (.astore 6, 2) := by decide +kernel
theorem dL_testGrowth_26 : decode cL_testGrowth 26 = .ok (.iconst 1, 1) := by decide +kernel
theorem dL_testGrowth_27 : decode cL_testGrowth 27 = .ok (.ireturn, 1) := by decide +kernel
theorem dL_testGrowth_28 : decode cL_testGrowth 28 = .ok (.astore 6, 2) := by decide +kernel
theorem dL_testGrowth_30 : decode cL_testGrowth 30 = .ok (.iconst 2, 1) := by decide +kernel
theorem dL_testGrowth_31 : decode cL_testGrowth 31 = .ok (.ireturn, 1) := by decide +kernel
theorem dL_testGrowth_32 : decode cL_testGrowth 32 = .ok (.iconst 0, 1) := by decide +kernel
theorem dL_testGrowth_33 : decode cL_testGrowth 33 = .ok (.ireturn, 1) := by decide +kernel
theorem dL_testKey_0 : decode cL_testKey 0 = .ok (.aload_n 3, 1) := by decide +kernel
theorem dL_testKey_1 : decode cL_testKey 1 = .ok (.iconst 0, 1) := by decide +kernel
theorem dL_testKey_2 : decode cL_testKey 2 = .ok (.aload_n 0, 1) := by decide +kernel
theorem dL_testKey_3 : decode cL_testKey 3 = .ok (.iload_n 1, 1) := by decide +kernel
theorem dL_testKey_4 : decode cL_testKey 4 = .ok (.iload_n 2, 1) := by decide +kernel
theorem dL_testKey_5 : decode cL_testKey 5 = .ok (.invokevirtual 65, 3) := by decide +kernel
theorem dL_testKey_8 : decode cL_testKey 8 = .ok (.ifCond .eq 7, 3) := by decide +kernel
theorem dL_testKey_11 : decode cL_testKey 11 = .ok (.lconst 1, 1) := by decide +kernel
theorem dL_testKey_12 : decode cL_testKey 12 = .ok (.goto 4, 3) := by decide +kernel
theorem dL_testKey_15 : decode cL_testKey 15 = .ok (.lconst 0, 1) := by decide +kernel
theorem dL_testKey_16 : decode cL_testKey 16 = .ok (.lastore, 1) := by decide +kernel
theorem dL_testKey_17 : decode cL_testKey 17 = .ok (.goto 7, 3) := by decide +kernel
theorem dL_testKey_20 : decode cL_testKey 20 = .ok (.astore 4, 2) := by decide +kernel
theorem dL_testKey_22 : decode cL_testKey 22 = .ok (.iconst 1, 1) := by decide +kernel
theorem dL_testKey_23 : decode cL_testKey 23 = .ok (.ireturn, 1) := by decide +kernel
theorem dL_testKey_24 : decode cL_testKey 24 = .ok (.iconst 0, 1) := by decide +kernel
theorem dL_testKey_25 : decode cL_testKey 25 = .ok (.ireturn, 1) := by decide +kernel
theorem dL_put_0 : decode cL_put 0 = .ok (.aload_n 3, 1) := by decide +kernel
theorem dL_put_1 : decode cL_put 1 = .ok (.iconst 0, 1) := by decide +kernel
theorem dL_put_2 : decode cL_put 2 = .ok (.aload_n 0, 1) := by decide +kernel
theorem dL_put_3 : decode cL_put 3 = .ok (.iload_n 1, 1) := by decide +kernel
theorem dL_put_4 : decode cL_put 4 = .ok (.iload_n 2, 1) := by decide +kernel
theorem dL_put_5 : decode cL_put 5 = .ok (.invokevirtual 69, 3) := by decide +kernel
theorem dL_put_8 : decode cL_put 8 = .ok (.i2l, 1) := by decide +kernel
theorem dL_put_9 : decode cL_put 9 = .ok (.lastore, 1) := by decide +kernel
theorem dL_put_10 : decode cL_put 10 = .ok (.goto 7, 3) := by decide +kernel
theorem dL_put_13 : decode cL_put 13 = .ok (.astore 4, 2) := by decide +kernel
theorem dL_put_15 : decode cL_put 15 = .ok (.iconst 1, 1) := by decide +kernel
theorem dL_put_16 : decode cL_put 16 = .ok (.ireturn, 1) := by decide +kernel
theorem dL_put_17 : decode cL_put 17 = .ok (.iconst 0, 1) := by decide +kernel
theorem dL_put_18 : decode cL_put 18 = .ok (.ireturn, 1) := by decide +kernel
theorem dL_remove_0 : decode cL_remove 0 = .ok (.aload_n 2, 1) := by decide +kernel
theorem dL_remove_1 : decode cL_remove 1 = .ok (.iconst 0, 1) := by decide +kernel
theorem dL_remove_2 : decode cL_remove 2 = .ok (.aload_n 0, 1) := by decide +kernel
theorem dL_remove_3 : decode cL_remove 3 = .ok (.iload_n 1, 1) := by decide +kernel
theorem dL_remove_4 : decode cL_remove 4 = .ok (.invokevirtual 72, 3) := by decide +kernel
theorem dL_remove_7 : decode cL_remove 7 = .ok (.i2l, 1) := by decide +kernel
theorem dL_remove_8 : decode cL_remove 8 = .ok (.lastore, 1) := by decide +kernel
theorem dL_remove_9 : decode cL_remove 9 = .ok (.goto 6, 3) := by decide +kernel
theorem dL_remove_12 : decode cL_remove 12 = .ok (.astore_n 3, 1) := by decide +kernel
theorem dL_remove_13 : decode cL_remove 13 = .ok (.iconst 1, 1) := by decide +kernel
theorem dL_remove_14 : decode cL_remove 14 = .ok (.ireturn, 1) := by decide +kernel
theorem dL_remove_15 : decode cL_remove 15 = .ok (.iconst 0, 1) := by decide +kernel
theorem dL_remove_16 : decode cL_remove 16 = .ok (.ireturn, 1) := by decide +kernel
theorem dL_get_0 : decode cL_get 0 = .ok (.aload_n 2, 1) := by decide +kernel
theorem dL_get_1 : decode cL_get 1 = .ok (.iconst 0, 1) := by decide +kernel
theorem dL_get_2 : decode cL_get 2 = .ok (.aload_n 0, 1) := by decide +kernel
theorem dL_get_3 : decode cL_get 3 = .ok (.iload_n 1, 1) := by decide +kernel
theorem dL_get_4 : decode cL_get 4 = .ok (.invokevirtual 75, 3) := by decide +kernel
theorem dL_get_7 : decode cL_get 7 = .ok (.i2l, 1) := by decide +kernel
theorem dL_get_8 : decode cL_get 8 = .ok (.lastore, 1) := by decide +kernel
theorem dL_get_9 : decode cL_get 9 = .ok (.goto 6, 3) := by decide +kernel
theorem dL_get_12 : decode cL_get 12 = .ok (.astore_n 3, 1) := by decide +kernel
theorem dL_get_13 : decode cL_get 13 = .ok (.iconst 1, 1) := by decide +kernel
theorem dL_get_14 : decode cL_get 14 = .ok (.ireturn, 1) := by decide +kernel
theorem dL_get_15 : decode cL_get 15 = .ok (.iconst 0, 1) := by decide +kernel
theorem dL_get_16 : decode cL_get 16 = .ok (.ireturn, 1) := by decide +kernel
theorem dL_show_0 : decode cL_show 0 = .ok (.aload_n 3, 1) := by decide +kernel
theorem dL_show_1 : decode cL_show 1 = .ok (.iconst 0, 1) := by decide +kernel
theorem dL_show_2 : decode cL_show 2 = .ok (.aload_n 0, 1) := by decide +kernel
theorem dL_show_3 : decode cL_show 3 = .ok (.iload_n 1, 1) := by decide +kernel
theorem dL_show_4 : decode cL_show 4 = .ok (.iload_n 2, 1) := by decide +kernel
theorem dL_show_5 : decode cL_show 5 = .ok (.invokevirtual 78, 3) := by decide +kernel
theorem dL_show_8 : decode cL_show 8 = .ok (.ifCond .eq 7, 3) := by decide +kernel
theorem dL_show_11 : decode cL_show 11 = .ok (.lconst 1, 1) := by decide +kernel
theorem dL_show_12 : decode cL_show 12 = .ok (.goto 4, 3) := by decide +kernel
theorem dL_show_15 : decode cL_show 15 = .ok (.lconst 0, 1) := by decide +kernel
theorem dL_show_16 : decode cL_show 16 = .ok (.lastore, 1) := by decide +kernel
theorem dL_show_17 : decode cL_show 17 = .ok (.goto 7, 3) := by decide +kernel
theorem dL_show_20 : decode cL_show 20 = .ok (.astore 4, 2) := by decide +kernel
theorem dL_show_22 : decode cL_show 22 = .ok (.iconst 1, 1) := by decide +kernel
theorem dL_show_23 : decode cL_show 23 = .ok (.ireturn, 1) := by decide +kernel
theorem dL_show_24 : decode cL_show 24 = .ok (.iconst 0, 1) := by decide +kernel
theorem dL_show_25 : decode cL_show 25 = .ok (.ireturn, 1) := by decide +kernel
theorem dL_gossip_0 : decode cL_gossip 0 = .ok (.aload_n 3, 1) := by decide +kernel
theorem dL_gossip_1 : decode cL_gossip 1 = .ok (.iconst 0, 1) := by decide +kernel
theorem dL_gossip_2 : decode cL_gossip 2 = .ok (.aload_n 0, 1) := by decide +kernel
theorem dL_gossip_3 : decode cL_gossip 3 = .ok (.iload_n 1, 1) := by decide +kernel
theorem dL_gossip_4 : decode cL_gossip 4 = .ok (.iload_n 2, 1) := by decide +kernel
theorem dL_gossip_5 : decode cL_gossip 5 = .ok (.invokevirtual 81, 3) := by decide +kernel
theorem dL_gossip_8 : decode cL_gossip 8 = .ok (.ifCond .eq 7, 3) := by decide +kernel
theorem dL_gossip_11 : decode cL_gossip 11 = .ok (.lconst 1, 1) := by decide +kernel
theorem dL_gossip_12 : decode cL_gossip 12 = .ok (.goto 4, 3) := by decide +kernel
theorem dL_gossip_15 : decode cL_gossip 15 = .ok (.lconst 0, 1) := by decide +kernel
theorem dL_gossip_16 : decode cL_gossip 16 = .ok (.lastore, 1) := by decide +kernel
theorem dL_gossip_17 : decode cL_gossip 17 = .ok (.goto 7, 3) := by decide +kernel
theorem dL_gossip_20 : decode cL_gossip 20 = .ok (.astore 4, 2) := by decide +kernel
theorem dL_gossip_22 : decode cL_gossip 22 = .ok (.iconst 1, 1) := by decide +kernel
theorem dL_gossip_23 : decode cL_gossip 23 = .ok (.ireturn, 1) := by decide +kernel
theorem dL_gossip_24 : decode cL_gossip 24 = .ok (.iconst 0, 1) := by decide +kernel
theorem dL_gossip_25 : decode cL_gossip 25 = .ok (.ireturn, 1) := by decide +kernel
theorem dL_follow_0 : decode cL_follow 0 = .ok (.aload_n 0, 1) := by decide +kernel
theorem dL_follow_1 : decode cL_follow 1 = .ok (.iload_n 1, 1) := by decide +kernel
theorem dL_follow_2 : decode cL_follow 2 = .ok (.iload_n 2, 1) := by decide +kernel
theorem dL_follow_3 : decode cL_follow 3 = .ok (.invokevirtual 84, 3) := by decide +kernel
theorem dL_follow_6 : decode cL_follow 6 = .ok (.goto 9, 3) := by decide +kernel
theorem dL_follow_9 : decode cL_follow 9 = .ok (.astore_n 3, 1) := by decide +kernel
theorem dL_follow_10 : decode cL_follow 10 = .ok (.iconst 1, 1) := by decide +kernel
theorem dL_follow_11 : decode cL_follow 11 = .ok (.ireturn, 1) := by decide +kernel
theorem dL_follow_12 : decode cL_follow 12 = .ok (.astore_n 3, 1) := by decide +kernel
theorem dL_follow_13 : decode cL_follow 13 = .ok (.iconst 2, 1) := by decide +kernel
theorem dL_follow_14 : decode cL_follow 14 = .ok (.ireturn, 1) := by decide +kernel
theorem dL_follow_15 : decode cL_follow 15 = .ok (.iconst 0, 1) := by decide +kernel
theorem dL_follow_16 : decode cL_follow 16 = .ok (.ireturn, 1) := by decide +kernel
theorem dL_isAlarmed_0 : decode cL_isAlarmed 0 = .ok (.aload_n 2, 1) := by decide +kernel
theorem dL_isAlarmed_1 : decode cL_isAlarmed 1 = .ok (.iconst 0, 1) := by decide +kernel
theorem dL_isAlarmed_2 : decode cL_isAlarmed 2 = .ok (.aload_n 0, 1) := by decide +kernel
theorem dL_isAlarmed_3 : decode cL_isAlarmed 3 = .ok (.iload_n 1, 1) := by decide +kernel
theorem dL_isAlarmed_4 : decode cL_isAlarmed 4 = .ok (.invokevirtual 88, 3) := by decide +kernel
theorem dL_isAlarmed_7 : decode cL_isAlarmed 7 = .ok (.ifCond .eq 7, 3) := by decide +kernel
theorem dL_isAlarmed_10 : decode cL_isAlarmed 10 = .ok (.lconst 1, 1) := by decide +kernel
theorem dL_isAlarmed_11 : decode cL_isAlarmed 11 = .ok (.goto 4, 3) := by decide +kernel
theorem dL_isAlarmed_14 : decode cL_isAlarmed 14 = .ok (.lconst 0, 1) := by decide +kernel
theorem dL_isAlarmed_15 : decode cL_isAlarmed 15 = .ok (.lastore, 1) := by decide +kernel
theorem dL_isAlarmed_16 : decode cL_isAlarmed 16 = .ok (.goto 6, 3) := by decide +kernel
theorem dL_isAlarmed_19 : decode cL_isAlarmed 19 = .ok (.astore_n 3, 1) := by decide +kernel
theorem dL_isAlarmed_20 : decode cL_isAlarmed 20 = .ok (.iconst 1, 1) := by decide +kernel
theorem dL_isAlarmed_21 : decode cL_isAlarmed 21 = .ok (.ireturn, 1) := by decide +kernel
theorem dL_isAlarmed_22 : decode cL_isAlarmed 22 = .ok (.iconst 0, 1) := by decide +kernel
theorem dL_isAlarmed_23 : decode cL_isAlarmed 23 = .ok (.ireturn, 1) := by decide +kernel
theorem dL_keptSize_0 : decode cL_keptSize 0 = .ok (.aload_n 2, 1) := by decide +kernel
theorem dL_keptSize_1 : decode cL_keptSize 1 = .ok (.iconst 0, 1) := by decide +kernel
theorem dL_keptSize_2 : decode cL_keptSize 2 = .ok (.aload_n 0, 1) := by decide +kernel
theorem dL_keptSize_3 : decode cL_keptSize 3 = .ok (.iload_n 1, 1) := by decide +kernel
theorem dL_keptSize_4 : decode cL_keptSize 4 = .ok (.invokevirtual 92, 3) := by decide +kernel
theorem dL_keptSize_7 : decode cL_keptSize 7 = .ok (.i2l, 1) := by decide +kernel
theorem dL_keptSize_8 : decode cL_keptSize 8 = .ok (.lastore, 1) := by decide +kernel
theorem dL_keptSize_9 : decode cL_keptSize 9 = .ok (.goto 6, 3) := by decide +kernel
theorem dL_keptSize_12 : decode cL_keptSize 12 = .ok (.astore_n 3, 1) := by decide +kernel
theorem dL_keptSize_13 : decode cL_keptSize 13 = .ok (.iconst 1, 1) := by decide +kernel
theorem dL_keptSize_14 : decode cL_keptSize 14 = .ok (.ireturn, 1) := by decide +kernel
theorem dL_keptSize_15 : decode cL_keptSize 15 = .ok (.iconst 0, 1) := by decide +kernel
theorem dL_keptSize_16 : decode cL_keptSize 16 = .ok (.ireturn, 1) := by decide +kernel
theorem dL_keptRoot_0 : decode cL_keptRoot 0 = .ok (.aload_n 2, 1) := by decide +kernel
theorem dL_keptRoot_1 : decode cL_keptRoot 1 = .ok (.iconst 0, 1) := by decide +kernel
theorem dL_keptRoot_2 : decode cL_keptRoot 2 = .ok (.aload_n 0, 1) := by decide +kernel
theorem dL_keptRoot_3 : decode cL_keptRoot 3 = .ok (.iload_n 1, 1) := by decide +kernel
theorem dL_keptRoot_4 : decode cL_keptRoot 4 = .ok (.invokevirtual 95, 3) := by decide +kernel
theorem dL_keptRoot_7 : decode cL_keptRoot 7 = .ok (.i2l, 1) := by decide +kernel
theorem dL_keptRoot_8 : decode cL_keptRoot 8 = .ok (.lastore, 1) := by decide +kernel
theorem dL_keptRoot_9 : decode cL_keptRoot 9 = .ok (.goto 6, 3) := by decide +kernel
theorem dL_keptRoot_12 : decode cL_keptRoot 12 = .ok (.astore_n 3, 1) := by decide +kernel
theorem dL_keptRoot_13 : decode cL_keptRoot 13 = .ok (.iconst 1, 1) := by decide +kernel
theorem dL_keptRoot_14 : decode cL_keptRoot 14 = .ok (.ireturn, 1) := by decide +kernel
theorem dL_keptRoot_15 : decode cL_keptRoot 15 = .ok (.iconst 0, 1) := by decide +kernel
theorem dL_keptRoot_16 : decode cL_keptRoot 16 = .ok (.ireturn, 1) := by decide +kernel
theorem dL_counted_0 : decode cL_counted 0 = .ok (.aload_n 2, 1) := by decide +kernel
theorem dL_counted_1 : decode cL_counted 1 = .ok (.iconst 0, 1) := by decide +kernel
theorem dL_counted_2 : decode cL_counted 2 = .ok (.aload_n 0, 1) := by decide +kernel
theorem dL_counted_3 : decode cL_counted 3 = .ok (.iload_n 1, 1) := by decide +kernel
theorem dL_counted_4 : decode cL_counted 4 = .ok (.invokevirtual 98, 3) := by decide +kernel
theorem dL_counted_7 : decode cL_counted 7 = .ok (.i2l, 1) := by decide +kernel
theorem dL_counted_8 : decode cL_counted 8 = .ok (.lastore, 1) := by decide +kernel
theorem dL_counted_9 : decode cL_counted 9 = .ok (.goto 6, 3) := by decide +kernel
theorem dL_counted_12 : decode cL_counted 12 = .ok (.astore_n 3, 1) := by decide +kernel
theorem dL_counted_13 : decode cL_counted 13 = .ok (.iconst 1, 1) := by decide +kernel
theorem dL_counted_14 : decode cL_counted 14 = .ok (.ireturn, 1) := by decide +kernel
theorem dL_counted_15 : decode cL_counted 15 = .ok (.iconst 0, 1) := by decide +kernel
theorem dL_counted_16 : decode cL_counted 16 = .ok (.ireturn, 1) := by decide +kernel
theorem dL_law_0 : decode cL_law 0 = .ok (.new 8, 3) := by decide +kernel
theorem dL_law_3 : decode cL_law 3 = .ok (.dup, 1) := by decide +kernel
theorem dL_law_4 : decode cL_law 4 = .ok (.invokespecial 101, 3) := by decide +kernel
theorem dL_law_7 : decode cL_law 7 = .ok (.astore_n 1, 1) := by decide +kernel
theorem dL_law_8 : decode cL_law 8 = .ok (.new 102, 3) := by decide +kernel
theorem dL_law_11 : decode cL_law 11 = .ok (.dup, 1) := by decide +kernel
theorem dL_law_12 : decode cL_law 12 = .ok (.invokespecial 104, 3) := by decide +kernel
theorem dL_law_15 : decode cL_law 15 = .ok (.astore_n 2, 1) := by decide +kernel
theorem dL_law_16 : decode cL_law 16 = .ok (.iconst 1, 1) := by decide +kernel
theorem dL_law_17 : decode cL_law 17 = .ok (.newarray .long, 2) := by decide +kernel
theorem dL_law_19 : decode cL_law 19 = .ok (.astore_n 3, 1) := by decide +kernel
theorem dL_law_20 : decode cL_law 20 = .ok (.iconst 0, 1) := by decide +kernel
theorem dL_law_21 : decode cL_law 21 = .ok (.istore 4, 2) := by decide +kernel
theorem dL_law_23 : decode cL_law 23 = .ok (.iload 4, 2) := by decide +kernel
theorem dL_law_25 : decode cL_law 25 = .ok (.aload_n 0, 1) := by decide +kernel
theorem dL_law_26 : decode cL_law 26 = .ok (.arraylength, 1) := by decide +kernel
theorem dL_law_27 : decode cL_law 27 = .ok (.iconst 5, 1) := by decide +kernel
theorem dL_law_28 : decode cL_law 28 = .ok (.isub, 1) := by decide +kernel
theorem dL_law_29 : decode cL_law 29 = .ok (.if_icmp .gt 1926, 3) := by decide +kernel
theorem dL_law_32 : decode cL_law 32 = .ok (.aload_n 0, 1) := by decide +kernel
theorem dL_law_33 : decode cL_law 33 = .ok (.iload 4, 2) := by decide +kernel
theorem dL_law_35 : decode cL_law 35 = .ok (.iaload, 1) := by decide +kernel
theorem dL_law_36 : decode cL_law 36 = .ok (.bipush 31, 2) := by decide +kernel
theorem dL_law_38 : decode cL_law 38 = .ok (.iand, 1) := by decide +kernel
theorem dL_law_39 : decode cL_law 39 = .ok (.tableswitch 1910 0 28 #[129, 197, 277, 345, 358, 414, 482, 550, 618, 698, 778, 834, 902, 946, 959, 1015, 1114, 1213, 1288, 1356, 1412, 1468, 1481, 1556, 1631, 1679, 1742, 1798, 1854], 129) := by decide +kernel
theorem dL_law_168 : decode cL_law 168 = .ok (.aload_n 1, 1) := by decide +kernel
theorem dL_law_169 : decode cL_law 169 = .ok (.aload_n 0, 1) := by decide +kernel
theorem dL_law_170 : decode cL_law 170 = .ok (.iload 4, 2) := by decide +kernel
theorem dL_law_172 : decode cL_law 172 = .ok (.iconst 1, 1) := by decide +kernel
theorem dL_law_173 : decode cL_law 173 = .ok (.iadd, 1) := by decide +kernel
theorem dL_law_174 : decode cL_law 174 = .ok (.iaload, 1) := by decide +kernel
theorem dL_law_175 : decode cL_law 175 = .ok (.aload_n 0, 1) := by decide +kernel
theorem dL_law_176 : decode cL_law 176 = .ok (.iload 4, 2) := by decide +kernel
theorem dL_law_178 : decode cL_law 178 = .ok (.iconst 2, 1) := by decide +kernel
theorem dL_law_179 : decode cL_law 179 = .ok (.iadd, 1) := by decide +kernel
theorem dL_law_180 : decode cL_law 180 = .ok (.iaload, 1) := by decide +kernel
theorem dL_law_181 : decode cL_law 181 = .ok (.aload_n 3, 1) := by decide +kernel
theorem dL_law_182 : decode cL_law 182 = .ok (.invokestatic 105, 3) := by decide +kernel
theorem dL_law_185 : decode cL_law 185 = .ok (.istore 5, 2) := by decide +kernel
theorem dL_law_187 : decode cL_law 187 = .ok (.aload_n 2, 1) := by decide +kernel
theorem dL_law_188 : decode cL_law 188 = .ok (.aload_n 0, 1) := by decide +kernel
theorem dL_law_189 : decode cL_law 189 = .ok (.iload 4, 2) := by decide +kernel
theorem dL_law_191 : decode cL_law 191 = .ok (.iconst 1, 1) := by decide +kernel
theorem dL_law_192 : decode cL_law 192 = .ok (.iadd, 1) := by decide +kernel
theorem dL_law_193 : decode cL_law 193 = .ok (.iaload, 1) := by decide +kernel
theorem dL_law_194 : decode cL_law 194 = .ok (.aload_n 0, 1) := by decide +kernel
theorem dL_law_195 : decode cL_law 195 = .ok (.iload 4, 2) := by decide +kernel
theorem dL_law_197 : decode cL_law 197 = .ok (.iconst 2, 1) := by decide +kernel
theorem dL_law_198 : decode cL_law 198 = .ok (.iadd, 1) := by decide +kernel
theorem dL_law_199 : decode cL_law 199 = .ok (.iaload, 1) := by decide +kernel
theorem dL_law_200 : decode cL_law 200 = .ok (.invokevirtual 110, 3) := by decide +kernel
theorem dL_law_203 : decode cL_law 203 = .ok (.istore 6, 2) := by decide +kernel
theorem dL_law_205 : decode cL_law 205 = .ok (.aload_n 2, 1) := by decide +kernel
theorem dL_law_206 : decode cL_law 206 = .ok (.invokevirtual 111, 3) := by decide +kernel
theorem dL_law_209 : decode cL_law 209 = .ok (.iload 5, 2) := by decide +kernel
theorem dL_law_211 : decode cL_law 211 = .ok (.if_icmp .eq 5, 3) := by decide +kernel
theorem dL_law_214 : decode cL_law 214 = .ok (.iconst 0, 1) := by decide +kernel
theorem dL_law_215 : decode cL_law 215 = .ok (.ireturn, 1) := by decide +kernel
theorem dL_law_216 : decode cL_law 216 = .ok (.iload 5, 2) := by decide +kernel
theorem dL_law_218 : decode cL_law 218 = .ok (.ifCond .ne 15, 3) := by decide +kernel
theorem dL_law_221 : decode cL_law 221 = .ok (.aload_n 3, 1) := by decide +kernel
theorem dL_law_222 : decode cL_law 222 = .ok (.iconst 0, 1) := by decide +kernel
theorem dL_law_223 : decode cL_law 223 = .ok (.laload, 1) := by decide +kernel
theorem dL_law_224 : decode cL_law 224 = .ok (.iload 6, 2) := by decide +kernel
theorem dL_law_226 : decode cL_law 226 = .ok (.i2l, 1) := by decide +kernel
theorem dL_law_227 : decode cL_law 227 = .ok (.lcmp, 1) := by decide +kernel
theorem dL_law_228 : decode cL_law 228 = .ok (.ifCond .eq 5, 3) := by decide +kernel
theorem dL_law_231 : decode cL_law 231 = .ok (.iconst 0, 1) := by decide +kernel
theorem dL_law_232 : decode cL_law 232 = .ok (.ireturn, 1) := by decide +kernel
theorem dL_law_233 : decode cL_law 233 = .ok (.goto 1716, 3) := by decide +kernel
theorem dL_law_236 : decode cL_law 236 = .ok (.aload_n 1, 1) := by decide +kernel
theorem dL_law_237 : decode cL_law 237 = .ok (.aload_n 0, 1) := by decide +kernel
theorem dL_law_238 : decode cL_law 238 = .ok (.iload 4, 2) := by decide +kernel
theorem dL_law_240 : decode cL_law 240 = .ok (.iconst 1, 1) := by decide +kernel
theorem dL_law_241 : decode cL_law 241 = .ok (.iadd, 1) := by decide +kernel
theorem dL_law_242 : decode cL_law 242 = .ok (.iaload, 1) := by decide +kernel
theorem dL_law_243 : decode cL_law 243 = .ok (.aload_n 0, 1) := by decide +kernel
theorem dL_law_244 : decode cL_law 244 = .ok (.iload 4, 2) := by decide +kernel
theorem dL_law_246 : decode cL_law 246 = .ok (.iconst 2, 1) := by decide +kernel
theorem dL_law_247 : decode cL_law 247 = .ok (.iadd, 1) := by decide +kernel
theorem dL_law_248 : decode cL_law 248 = .ok (.iaload, 1) := by decide +kernel
theorem dL_law_249 : decode cL_law 249 = .ok (.aload_n 0, 1) := by decide +kernel
theorem dL_law_250 : decode cL_law 250 = .ok (.iload 4, 2) := by decide +kernel
theorem dL_law_252 : decode cL_law 252 = .ok (.iconst 3, 1) := by decide +kernel
theorem dL_law_253 : decode cL_law 253 = .ok (.iadd, 1) := by decide +kernel
theorem dL_law_254 : decode cL_law 254 = .ok (.iaload, 1) := by decide +kernel
theorem dL_law_255 : decode cL_law 255 = .ok (.aload_n 3, 1) := by decide +kernel
theorem dL_law_256 : decode cL_law 256 = .ok (.invokestatic 114, 3) := by decide +kernel
theorem dL_law_259 : decode cL_law 259 = .ok (.istore 5, 2) := by decide +kernel
theorem dL_law_261 : decode cL_law 261 = .ok (.aload_n 2, 1) := by decide +kernel
theorem dL_law_262 : decode cL_law 262 = .ok (.aload_n 0, 1) := by decide +kernel
theorem dL_law_263 : decode cL_law 263 = .ok (.iload 4, 2) := by decide +kernel
theorem dL_law_265 : decode cL_law 265 = .ok (.iconst 1, 1) := by decide +kernel
theorem dL_law_266 : decode cL_law 266 = .ok (.iadd, 1) := by decide +kernel
theorem dL_law_267 : decode cL_law 267 = .ok (.iaload, 1) := by decide +kernel
theorem dL_law_268 : decode cL_law 268 = .ok (.aload_n 0, 1) := by decide +kernel
theorem dL_law_269 : decode cL_law 269 = .ok (.iload 4, 2) := by decide +kernel
theorem dL_law_271 : decode cL_law 271 = .ok (.iconst 2, 1) := by decide +kernel
theorem dL_law_272 : decode cL_law 272 = .ok (.iadd, 1) := by decide +kernel
theorem dL_law_273 : decode cL_law 273 = .ok (.iaload, 1) := by decide +kernel
theorem dL_law_274 : decode cL_law 274 = .ok (.aload_n 0, 1) := by decide +kernel
theorem dL_law_275 : decode cL_law 275 = .ok (.iload 4, 2) := by decide +kernel
theorem dL_law_277 : decode cL_law 277 = .ok (.iconst 3, 1) := by decide +kernel
theorem dL_law_278 : decode cL_law 278 = .ok (.iadd, 1) := by decide +kernel
theorem dL_law_279 : decode cL_law 279 = .ok (.iaload, 1) := by decide +kernel
theorem dL_law_280 : decode cL_law 280 = .ok (.invokevirtual 117, 3) := by decide +kernel
theorem dL_law_283 : decode cL_law 283 = .ok (.istore 6, 2) := by decide +kernel
theorem dL_law_285 : decode cL_law 285 = .ok (.aload_n 2, 1) := by decide +kernel
theorem dL_law_286 : decode cL_law 286 = .ok (.invokevirtual 111, 3) := by decide +kernel
theorem dL_law_289 : decode cL_law 289 = .ok (.iload 5, 2) := by decide +kernel
theorem dL_law_291 : decode cL_law 291 = .ok (.if_icmp .eq 5, 3) := by decide +kernel
theorem dL_law_294 : decode cL_law 294 = .ok (.iconst 0, 1) := by decide +kernel
theorem dL_law_295 : decode cL_law 295 = .ok (.ireturn, 1) := by decide +kernel
theorem dL_law_296 : decode cL_law 296 = .ok (.iload 5, 2) := by decide +kernel
theorem dL_law_298 : decode cL_law 298 = .ok (.ifCond .ne 15, 3) := by decide +kernel
theorem dL_law_301 : decode cL_law 301 = .ok (.aload_n 3, 1) := by decide +kernel
theorem dL_law_302 : decode cL_law 302 = .ok (.iconst 0, 1) := by decide +kernel
theorem dL_law_303 : decode cL_law 303 = .ok (.laload, 1) := by decide +kernel
theorem dL_law_304 : decode cL_law 304 = .ok (.iload 6, 2) := by decide +kernel
theorem dL_law_306 : decode cL_law 306 = .ok (.i2l, 1) := by decide +kernel
theorem dL_law_307 : decode cL_law 307 = .ok (.lcmp, 1) := by decide +kernel
theorem dL_law_308 : decode cL_law 308 = .ok (.ifCond .eq 5, 3) := by decide +kernel
theorem dL_law_311 : decode cL_law 311 = .ok (.iconst 0, 1) := by decide +kernel
theorem dL_law_312 : decode cL_law 312 = .ok (.ireturn, 1) := by decide +kernel
theorem dL_law_313 : decode cL_law 313 = .ok (.goto 1636, 3) := by decide +kernel
theorem dL_law_316 : decode cL_law 316 = .ok (.aload_n 1, 1) := by decide +kernel
theorem dL_law_317 : decode cL_law 317 = .ok (.aload_n 0, 1) := by decide +kernel
theorem dL_law_318 : decode cL_law 318 = .ok (.iload 4, 2) := by decide +kernel
theorem dL_law_320 : decode cL_law 320 = .ok (.iconst 1, 1) := by decide +kernel
theorem dL_law_321 : decode cL_law 321 = .ok (.iadd, 1) := by decide +kernel
theorem dL_law_322 : decode cL_law 322 = .ok (.iaload, 1) := by decide +kernel
theorem dL_law_323 : decode cL_law 323 = .ok (.aload_n 0, 1) := by decide +kernel
theorem dL_law_324 : decode cL_law 324 = .ok (.iload 4, 2) := by decide +kernel
theorem dL_law_326 : decode cL_law 326 = .ok (.iconst 2, 1) := by decide +kernel
theorem dL_law_327 : decode cL_law 327 = .ok (.iadd, 1) := by decide +kernel
theorem dL_law_328 : decode cL_law 328 = .ok (.iaload, 1) := by decide +kernel
theorem dL_law_329 : decode cL_law 329 = .ok (.aload_n 3, 1) := by decide +kernel
theorem dL_law_330 : decode cL_law 330 = .ok (.invokestatic 118, 3) := by decide +kernel
theorem dL_law_333 : decode cL_law 333 = .ok (.istore 5, 2) := by decide +kernel
theorem dL_law_335 : decode cL_law 335 = .ok (.aload_n 2, 1) := by decide +kernel
theorem dL_law_336 : decode cL_law 336 = .ok (.aload_n 0, 1) := by decide +kernel
theorem dL_law_337 : decode cL_law 337 = .ok (.iload 4, 2) := by decide +kernel
theorem dL_law_339 : decode cL_law 339 = .ok (.iconst 1, 1) := by decide +kernel
theorem dL_law_340 : decode cL_law 340 = .ok (.iadd, 1) := by decide +kernel
theorem dL_law_341 : decode cL_law 341 = .ok (.iaload, 1) := by decide +kernel
theorem dL_law_342 : decode cL_law 342 = .ok (.aload_n 0, 1) := by decide +kernel
theorem dL_law_343 : decode cL_law 343 = .ok (.iload 4, 2) := by decide +kernel
theorem dL_law_345 : decode cL_law 345 = .ok (.iconst 2, 1) := by decide +kernel
theorem dL_law_346 : decode cL_law 346 = .ok (.iadd, 1) := by decide +kernel
theorem dL_law_347 : decode cL_law 347 = .ok (.iaload, 1) := by decide +kernel
theorem dL_law_348 : decode cL_law 348 = .ok (.invokevirtual 120, 3) := by decide +kernel
theorem dL_law_351 : decode cL_law 351 = .ok (.istore 6, 2) := by decide +kernel
theorem dL_law_353 : decode cL_law 353 = .ok (.aload_n 2, 1) := by decide +kernel
theorem dL_law_354 : decode cL_law 354 = .ok (.invokevirtual 111, 3) := by decide +kernel
theorem dL_law_357 : decode cL_law 357 = .ok (.iload 5, 2) := by decide +kernel
theorem dL_law_359 : decode cL_law 359 = .ok (.if_icmp .eq 5, 3) := by decide +kernel
theorem dL_law_362 : decode cL_law 362 = .ok (.iconst 0, 1) := by decide +kernel
theorem dL_law_363 : decode cL_law 363 = .ok (.ireturn, 1) := by decide +kernel
theorem dL_law_364 : decode cL_law 364 = .ok (.iload 5, 2) := by decide +kernel
theorem dL_law_366 : decode cL_law 366 = .ok (.ifCond .ne 15, 3) := by decide +kernel
theorem dL_law_369 : decode cL_law 369 = .ok (.aload_n 3, 1) := by decide +kernel
theorem dL_law_370 : decode cL_law 370 = .ok (.iconst 0, 1) := by decide +kernel
theorem dL_law_371 : decode cL_law 371 = .ok (.laload, 1) := by decide +kernel
theorem dL_law_372 : decode cL_law 372 = .ok (.iload 6, 2) := by decide +kernel
theorem dL_law_374 : decode cL_law 374 = .ok (.i2l, 1) := by decide +kernel
theorem dL_law_375 : decode cL_law 375 = .ok (.lcmp, 1) := by decide +kernel
theorem dL_law_376 : decode cL_law 376 = .ok (.ifCond .eq 5, 3) := by decide +kernel
theorem dL_law_379 : decode cL_law 379 = .ok (.iconst 0, 1) := by decide +kernel
theorem dL_law_380 : decode cL_law 380 = .ok (.ireturn, 1) := by decide +kernel
theorem dL_law_381 : decode cL_law 381 = .ok (.goto 1568, 3) := by decide +kernel
theorem dL_law_384 : decode cL_law 384 = .ok (.aload_n 1, 1) := by decide +kernel
theorem dL_law_385 : decode cL_law 385 = .ok (.invokevirtual 121, 3) := by decide +kernel
theorem dL_law_388 : decode cL_law 388 = .ok (.aload_n 2, 1) := by decide +kernel
theorem dL_law_389 : decode cL_law 389 = .ok (.invokevirtual 124, 3) := by decide +kernel
theorem dL_law_392 : decode cL_law 392 = .ok (.if_icmp .eq 1557, 3) := by decide +kernel
theorem dL_law_395 : decode cL_law 395 = .ok (.iconst 0, 1) := by decide +kernel
theorem dL_law_396 : decode cL_law 396 = .ok (.ireturn, 1) := by decide +kernel
theorem dL_law_397 : decode cL_law 397 = .ok (.aload_n 1, 1) := by decide +kernel
theorem dL_law_398 : decode cL_law 398 = .ok (.aload_n 0, 1) := by decide +kernel
theorem dL_law_399 : decode cL_law 399 = .ok (.iload 4, 2) := by decide +kernel
theorem dL_law_401 : decode cL_law 401 = .ok (.iconst 1, 1) := by decide +kernel
theorem dL_law_402 : decode cL_law 402 = .ok (.iadd, 1) := by decide +kernel
theorem dL_law_403 : decode cL_law 403 = .ok (.iaload, 1) := by decide +kernel
theorem dL_law_404 : decode cL_law 404 = .ok (.aload_n 3, 1) := by decide +kernel
theorem dL_law_405 : decode cL_law 405 = .ok (.invokestatic 125, 3) := by decide +kernel
theorem dL_law_408 : decode cL_law 408 = .ok (.istore 5, 2) := by decide +kernel
theorem dL_law_410 : decode cL_law 410 = .ok (.aload_n 2, 1) := by decide +kernel
theorem dL_law_411 : decode cL_law 411 = .ok (.aload_n 0, 1) := by decide +kernel
theorem dL_law_412 : decode cL_law 412 = .ok (.iload 4, 2) := by decide +kernel
theorem dL_law_414 : decode cL_law 414 = .ok (.iconst 1, 1) := by decide +kernel
theorem dL_law_415 : decode cL_law 415 = .ok (.iadd, 1) := by decide +kernel
theorem dL_law_416 : decode cL_law 416 = .ok (.iaload, 1) := by decide +kernel
theorem dL_law_417 : decode cL_law 417 = .ok (.invokevirtual 128, 3) := by decide +kernel
theorem dL_law_420 : decode cL_law 420 = .ok (.istore 6, 2) := by decide +kernel
theorem dL_law_422 : decode cL_law 422 = .ok (.aload_n 2, 1) := by decide +kernel
theorem dL_law_423 : decode cL_law 423 = .ok (.invokevirtual 111, 3) := by decide +kernel
theorem dL_law_426 : decode cL_law 426 = .ok (.iload 5, 2) := by decide +kernel
theorem dL_law_428 : decode cL_law 428 = .ok (.if_icmp .eq 5, 3) := by decide +kernel
theorem dL_law_431 : decode cL_law 431 = .ok (.iconst 0, 1) := by decide +kernel
theorem dL_law_432 : decode cL_law 432 = .ok (.ireturn, 1) := by decide +kernel
theorem dL_law_433 : decode cL_law 433 = .ok (.iload 5, 2) := by decide +kernel
theorem dL_law_435 : decode cL_law 435 = .ok (.ifCond .ne 15, 3) := by decide +kernel
theorem dL_law_438 : decode cL_law 438 = .ok (.aload_n 3, 1) := by decide +kernel
theorem dL_law_439 : decode cL_law 439 = .ok (.iconst 0, 1) := by decide +kernel
theorem dL_law_440 : decode cL_law 440 = .ok (.laload, 1) := by decide +kernel
theorem dL_law_441 : decode cL_law 441 = .ok (.iload 6, 2) := by decide +kernel
theorem dL_law_443 : decode cL_law 443 = .ok (.i2l, 1) := by decide +kernel
theorem dL_law_444 : decode cL_law 444 = .ok (.lcmp, 1) := by decide +kernel
theorem dL_law_445 : decode cL_law 445 = .ok (.ifCond .eq 5, 3) := by decide +kernel
theorem dL_law_448 : decode cL_law 448 = .ok (.iconst 0, 1) := by decide +kernel
theorem dL_law_449 : decode cL_law 449 = .ok (.ireturn, 1) := by decide +kernel
theorem dL_law_450 : decode cL_law 450 = .ok (.goto 1499, 3) := by decide +kernel
theorem dL_law_453 : decode cL_law 453 = .ok (.aload_n 1, 1) := by decide +kernel
theorem dL_law_454 : decode cL_law 454 = .ok (.aload_n 0, 1) := by decide +kernel
theorem dL_law_455 : decode cL_law 455 = .ok (.iload 4, 2) := by decide +kernel
theorem dL_law_457 : decode cL_law 457 = .ok (.iconst 1, 1) := by decide +kernel
theorem dL_law_458 : decode cL_law 458 = .ok (.iadd, 1) := by decide +kernel
theorem dL_law_459 : decode cL_law 459 = .ok (.iaload, 1) := by decide +kernel
theorem dL_law_460 : decode cL_law 460 = .ok (.aload_n 0, 1) := by decide +kernel
theorem dL_law_461 : decode cL_law 461 = .ok (.iload 4, 2) := by decide +kernel
theorem dL_law_463 : decode cL_law 463 = .ok (.iconst 2, 1) := by decide +kernel
theorem dL_law_464 : decode cL_law 464 = .ok (.iadd, 1) := by decide +kernel
theorem dL_law_465 : decode cL_law 465 = .ok (.iaload, 1) := by decide +kernel
theorem dL_law_466 : decode cL_law 466 = .ok (.aload_n 3, 1) := by decide +kernel
theorem dL_law_467 : decode cL_law 467 = .ok (.invokestatic 129, 3) := by decide +kernel
theorem dL_law_470 : decode cL_law 470 = .ok (.istore 5, 2) := by decide +kernel
theorem dL_law_472 : decode cL_law 472 = .ok (.aload_n 2, 1) := by decide +kernel
theorem dL_law_473 : decode cL_law 473 = .ok (.aload_n 0, 1) := by decide +kernel
theorem dL_law_474 : decode cL_law 474 = .ok (.iload 4, 2) := by decide +kernel
theorem dL_law_476 : decode cL_law 476 = .ok (.iconst 1, 1) := by decide +kernel
theorem dL_law_477 : decode cL_law 477 = .ok (.iadd, 1) := by decide +kernel
theorem dL_law_478 : decode cL_law 478 = .ok (.iaload, 1) := by decide +kernel
theorem dL_law_479 : decode cL_law 479 = .ok (.aload_n 0, 1) := by decide +kernel
theorem dL_law_480 : decode cL_law 480 = .ok (.iload 4, 2) := by decide +kernel
theorem dL_law_482 : decode cL_law 482 = .ok (.iconst 2, 1) := by decide +kernel
theorem dL_law_483 : decode cL_law 483 = .ok (.iadd, 1) := by decide +kernel
theorem dL_law_484 : decode cL_law 484 = .ok (.iaload, 1) := by decide +kernel
theorem dL_law_485 : decode cL_law 485 = .ok (.invokevirtual 131, 3) := by decide +kernel
theorem dL_law_488 : decode cL_law 488 = .ok (.istore 6, 2) := by decide +kernel
theorem dL_law_490 : decode cL_law 490 = .ok (.aload_n 2, 1) := by decide +kernel
theorem dL_law_491 : decode cL_law 491 = .ok (.invokevirtual 111, 3) := by decide +kernel
theorem dL_law_494 : decode cL_law 494 = .ok (.iload 5, 2) := by decide +kernel
theorem dL_law_496 : decode cL_law 496 = .ok (.if_icmp .eq 5, 3) := by decide +kernel
theorem dL_law_499 : decode cL_law 499 = .ok (.iconst 0, 1) := by decide +kernel
theorem dL_law_500 : decode cL_law 500 = .ok (.ireturn, 1) := by decide +kernel
theorem dL_law_501 : decode cL_law 501 = .ok (.iload 5, 2) := by decide +kernel
theorem dL_law_503 : decode cL_law 503 = .ok (.ifCond .ne 15, 3) := by decide +kernel
theorem dL_law_506 : decode cL_law 506 = .ok (.aload_n 3, 1) := by decide +kernel
theorem dL_law_507 : decode cL_law 507 = .ok (.iconst 0, 1) := by decide +kernel
theorem dL_law_508 : decode cL_law 508 = .ok (.laload, 1) := by decide +kernel
theorem dL_law_509 : decode cL_law 509 = .ok (.iload 6, 2) := by decide +kernel
theorem dL_law_511 : decode cL_law 511 = .ok (.i2l, 1) := by decide +kernel
theorem dL_law_512 : decode cL_law 512 = .ok (.lcmp, 1) := by decide +kernel
theorem dL_law_513 : decode cL_law 513 = .ok (.ifCond .eq 5, 3) := by decide +kernel
theorem dL_law_516 : decode cL_law 516 = .ok (.iconst 0, 1) := by decide +kernel
theorem dL_law_517 : decode cL_law 517 = .ok (.ireturn, 1) := by decide +kernel
theorem dL_law_518 : decode cL_law 518 = .ok (.goto 1431, 3) := by decide +kernel
theorem dL_law_521 : decode cL_law 521 = .ok (.aload_n 1, 1) := by decide +kernel
theorem dL_law_522 : decode cL_law 522 = .ok (.aload_n 0, 1) := by decide +kernel
theorem dL_law_523 : decode cL_law 523 = .ok (.iload 4, 2) := by decide +kernel
theorem dL_law_525 : decode cL_law 525 = .ok (.iconst 1, 1) := by decide +kernel
theorem dL_law_526 : decode cL_law 526 = .ok (.iadd, 1) := by decide +kernel
theorem dL_law_527 : decode cL_law 527 = .ok (.iaload, 1) := by decide +kernel
theorem dL_law_528 : decode cL_law 528 = .ok (.aload_n 0, 1) := by decide +kernel
theorem dL_law_529 : decode cL_law 529 = .ok (.iload 4, 2) := by decide +kernel
theorem dL_law_531 : decode cL_law 531 = .ok (.iconst 2, 1) := by decide +kernel
theorem dL_law_532 : decode cL_law 532 = .ok (.iadd, 1) := by decide +kernel
theorem dL_law_533 : decode cL_law 533 = .ok (.iaload, 1) := by decide +kernel
theorem dL_law_534 : decode cL_law 534 = .ok (.aload_n 3, 1) := by decide +kernel
theorem dL_law_535 : decode cL_law 535 = .ok (.invokestatic 132, 3) := by decide +kernel
theorem dL_law_538 : decode cL_law 538 = .ok (.istore 5, 2) := by decide +kernel
theorem dL_law_540 : decode cL_law 540 = .ok (.aload_n 2, 1) := by decide +kernel
theorem dL_law_541 : decode cL_law 541 = .ok (.aload_n 0, 1) := by decide +kernel
theorem dL_law_542 : decode cL_law 542 = .ok (.iload 4, 2) := by decide +kernel
theorem dL_law_544 : decode cL_law 544 = .ok (.iconst 1, 1) := by decide +kernel
theorem dL_law_545 : decode cL_law 545 = .ok (.iadd, 1) := by decide +kernel
theorem dL_law_546 : decode cL_law 546 = .ok (.iaload, 1) := by decide +kernel
theorem dL_law_547 : decode cL_law 547 = .ok (.aload_n 0, 1) := by decide +kernel
theorem dL_law_548 : decode cL_law 548 = .ok (.iload 4, 2) := by decide +kernel
theorem dL_law_550 : decode cL_law 550 = .ok (.iconst 2, 1) := by decide +kernel
theorem dL_law_551 : decode cL_law 551 = .ok (.iadd, 1) := by decide +kernel
theorem dL_law_552 : decode cL_law 552 = .ok (.iaload, 1) := by decide +kernel
theorem dL_law_553 : decode cL_law 553 = .ok (.invokevirtual 134, 3) := by decide +kernel
theorem dL_law_556 : decode cL_law 556 = .ok (.istore 6, 2) := by decide +kernel
theorem dL_law_558 : decode cL_law 558 = .ok (.aload_n 2, 1) := by decide +kernel
theorem dL_law_559 : decode cL_law 559 = .ok (.invokevirtual 111, 3) := by decide +kernel
theorem dL_law_562 : decode cL_law 562 = .ok (.iload 5, 2) := by decide +kernel
theorem dL_law_564 : decode cL_law 564 = .ok (.if_icmp .eq 5, 3) := by decide +kernel
theorem dL_law_567 : decode cL_law 567 = .ok (.iconst 0, 1) := by decide +kernel
theorem dL_law_568 : decode cL_law 568 = .ok (.ireturn, 1) := by decide +kernel
theorem dL_law_569 : decode cL_law 569 = .ok (.iload 5, 2) := by decide +kernel
theorem dL_law_571 : decode cL_law 571 = .ok (.ifCond .ne 15, 3) := by decide +kernel
theorem dL_law_574 : decode cL_law 574 = .ok (.aload_n 3, 1) := by decide +kernel
theorem dL_law_575 : decode cL_law 575 = .ok (.iconst 0, 1) := by decide +kernel
theorem dL_law_576 : decode cL_law 576 = .ok (.laload, 1) := by decide +kernel
theorem dL_law_577 : decode cL_law 577 = .ok (.iload 6, 2) := by decide +kernel
theorem dL_law_579 : decode cL_law 579 = .ok (.i2l, 1) := by decide +kernel
theorem dL_law_580 : decode cL_law 580 = .ok (.lcmp, 1) := by decide +kernel
theorem dL_law_581 : decode cL_law 581 = .ok (.ifCond .eq 5, 3) := by decide +kernel
theorem dL_law_584 : decode cL_law 584 = .ok (.iconst 0, 1) := by decide +kernel
theorem dL_law_585 : decode cL_law 585 = .ok (.ireturn, 1) := by decide +kernel
theorem dL_law_586 : decode cL_law 586 = .ok (.goto 1363, 3) := by decide +kernel
theorem dL_law_589 : decode cL_law 589 = .ok (.aload_n 1, 1) := by decide +kernel
theorem dL_law_590 : decode cL_law 590 = .ok (.aload_n 0, 1) := by decide +kernel
theorem dL_law_591 : decode cL_law 591 = .ok (.iload 4, 2) := by decide +kernel
theorem dL_law_593 : decode cL_law 593 = .ok (.iconst 1, 1) := by decide +kernel
theorem dL_law_594 : decode cL_law 594 = .ok (.iadd, 1) := by decide +kernel
theorem dL_law_595 : decode cL_law 595 = .ok (.iaload, 1) := by decide +kernel
theorem dL_law_596 : decode cL_law 596 = .ok (.aload_n 0, 1) := by decide +kernel
theorem dL_law_597 : decode cL_law 597 = .ok (.iload 4, 2) := by decide +kernel
theorem dL_law_599 : decode cL_law 599 = .ok (.iconst 2, 1) := by decide +kernel
theorem dL_law_600 : decode cL_law 600 = .ok (.iadd, 1) := by decide +kernel
theorem dL_law_601 : decode cL_law 601 = .ok (.iaload, 1) := by decide +kernel
theorem dL_law_602 : decode cL_law 602 = .ok (.aload_n 3, 1) := by decide +kernel
theorem dL_law_603 : decode cL_law 603 = .ok (.invokestatic 135, 3) := by decide +kernel
theorem dL_law_606 : decode cL_law 606 = .ok (.istore 5, 2) := by decide +kernel
theorem dL_law_608 : decode cL_law 608 = .ok (.aload_n 2, 1) := by decide +kernel
theorem dL_law_609 : decode cL_law 609 = .ok (.aload_n 0, 1) := by decide +kernel
theorem dL_law_610 : decode cL_law 610 = .ok (.iload 4, 2) := by decide +kernel
theorem dL_law_612 : decode cL_law 612 = .ok (.iconst 1, 1) := by decide +kernel
theorem dL_law_613 : decode cL_law 613 = .ok (.iadd, 1) := by decide +kernel
theorem dL_law_614 : decode cL_law 614 = .ok (.iaload, 1) := by decide +kernel
theorem dL_law_615 : decode cL_law 615 = .ok (.aload_n 0, 1) := by decide +kernel
theorem dL_law_616 : decode cL_law 616 = .ok (.iload 4, 2) := by decide +kernel
theorem dL_law_618 : decode cL_law 618 = .ok (.iconst 2, 1) := by decide +kernel
theorem dL_law_619 : decode cL_law 619 = .ok (.iadd, 1) := by decide +kernel
theorem dL_law_620 : decode cL_law 620 = .ok (.iaload, 1) := by decide +kernel
theorem dL_law_621 : decode cL_law 621 = .ok (.invokevirtual 137, 3) := by decide +kernel
theorem dL_law_624 : decode cL_law 624 = .ok (.istore 6, 2) := by decide +kernel
theorem dL_law_626 : decode cL_law 626 = .ok (.aload_n 2, 1) := by decide +kernel
theorem dL_law_627 : decode cL_law 627 = .ok (.invokevirtual 111, 3) := by decide +kernel
theorem dL_law_630 : decode cL_law 630 = .ok (.iload 5, 2) := by decide +kernel
theorem dL_law_632 : decode cL_law 632 = .ok (.if_icmp .eq 5, 3) := by decide +kernel
theorem dL_law_635 : decode cL_law 635 = .ok (.iconst 0, 1) := by decide +kernel
theorem dL_law_636 : decode cL_law 636 = .ok (.ireturn, 1) := by decide +kernel
theorem dL_law_637 : decode cL_law 637 = .ok (.iload 5, 2) := by decide +kernel
theorem dL_law_639 : decode cL_law 639 = .ok (.ifCond .ne 15, 3) := by decide +kernel
theorem dL_law_642 : decode cL_law 642 = .ok (.aload_n 3, 1) := by decide +kernel
theorem dL_law_643 : decode cL_law 643 = .ok (.iconst 0, 1) := by decide +kernel
theorem dL_law_644 : decode cL_law 644 = .ok (.laload, 1) := by decide +kernel
theorem dL_law_645 : decode cL_law 645 = .ok (.iload 6, 2) := by decide +kernel
theorem dL_law_647 : decode cL_law 647 = .ok (.i2l, 1) := by decide +kernel
theorem dL_law_648 : decode cL_law 648 = .ok (.lcmp, 1) := by decide +kernel
theorem dL_law_649 : decode cL_law 649 = .ok (.ifCond .eq 5, 3) := by decide +kernel
theorem dL_law_652 : decode cL_law 652 = .ok (.iconst 0, 1) := by decide +kernel
theorem dL_law_653 : decode cL_law 653 = .ok (.ireturn, 1) := by decide +kernel
theorem dL_law_654 : decode cL_law 654 = .ok (.goto 1295, 3) := by decide +kernel
theorem dL_law_657 : decode cL_law 657 = .ok (.aload_n 1, 1) := by decide +kernel
theorem dL_law_658 : decode cL_law 658 = .ok (.aload_n 0, 1) := by decide +kernel
theorem dL_law_659 : decode cL_law 659 = .ok (.iload 4, 2) := by decide +kernel
theorem dL_law_661 : decode cL_law 661 = .ok (.iconst 1, 1) := by decide +kernel
theorem dL_law_662 : decode cL_law 662 = .ok (.iadd, 1) := by decide +kernel
theorem dL_law_663 : decode cL_law 663 = .ok (.iaload, 1) := by decide +kernel
theorem dL_law_664 : decode cL_law 664 = .ok (.aload_n 0, 1) := by decide +kernel
theorem dL_law_665 : decode cL_law 665 = .ok (.iload 4, 2) := by decide +kernel
theorem dL_law_667 : decode cL_law 667 = .ok (.iconst 2, 1) := by decide +kernel
theorem dL_law_668 : decode cL_law 668 = .ok (.iadd, 1) := by decide +kernel
theorem dL_law_669 : decode cL_law 669 = .ok (.iaload, 1) := by decide +kernel
theorem dL_law_670 : decode cL_law 670 = .ok (.aload_n 0, 1) := by decide +kernel
theorem dL_law_671 : decode cL_law 671 = .ok (.iload 4, 2) := by decide +kernel
theorem dL_law_673 : decode cL_law 673 = .ok (.iconst 3, 1) := by decide +kernel
theorem dL_law_674 : decode cL_law 674 = .ok (.iadd, 1) := by decide +kernel
theorem dL_law_675 : decode cL_law 675 = .ok (.iaload, 1) := by decide +kernel
theorem dL_law_676 : decode cL_law 676 = .ok (.aload_n 3, 1) := by decide +kernel
theorem dL_law_677 : decode cL_law 677 = .ok (.invokestatic 138, 3) := by decide +kernel
theorem dL_law_680 : decode cL_law 680 = .ok (.istore 5, 2) := by decide +kernel
theorem dL_law_682 : decode cL_law 682 = .ok (.aload_n 2, 1) := by decide +kernel
theorem dL_law_683 : decode cL_law 683 = .ok (.aload_n 0, 1) := by decide +kernel
theorem dL_law_684 : decode cL_law 684 = .ok (.iload 4, 2) := by decide +kernel
theorem dL_law_686 : decode cL_law 686 = .ok (.iconst 1, 1) := by decide +kernel
theorem dL_law_687 : decode cL_law 687 = .ok (.iadd, 1) := by decide +kernel
theorem dL_law_688 : decode cL_law 688 = .ok (.iaload, 1) := by decide +kernel
theorem dL_law_689 : decode cL_law 689 = .ok (.aload_n 0, 1) := by decide +kernel
theorem dL_law_690 : decode cL_law 690 = .ok (.iload 4, 2) := by decide +kernel
theorem dL_law_692 : decode cL_law 692 = .ok (.iconst 2, 1) := by decide +kernel
theorem dL_law_693 : decode cL_law 693 = .ok (.iadd, 1) := by decide +kernel
theorem dL_law_694 : decode cL_law 694 = .ok (.iaload, 1) := by decide +kernel
theorem dL_law_695 : decode cL_law 695 = .ok (.aload_n 0, 1) := by decide +kernel
theorem dL_law_696 : decode cL_law 696 = .ok (.iload 4, 2) := by decide +kernel
theorem dL_law_698 : decode cL_law 698 = .ok (.iconst 3, 1) := by decide +kernel
theorem dL_law_699 : decode cL_law 699 = .ok (.iadd, 1) := by decide +kernel
theorem dL_law_700 : decode cL_law 700 = .ok (.iaload, 1) := by decide +kernel
theorem dL_law_701 : decode cL_law 701 = .ok (.invokevirtual 140, 3) := by decide +kernel
theorem dL_law_704 : decode cL_law 704 = .ok (.istore 6, 2) := by decide +kernel
theorem dL_law_706 : decode cL_law 706 = .ok (.aload_n 2, 1) := by decide +kernel
theorem dL_law_707 : decode cL_law 707 = .ok (.invokevirtual 111, 3) := by decide +kernel
theorem dL_law_710 : decode cL_law 710 = .ok (.iload 5, 2) := by decide +kernel
theorem dL_law_712 : decode cL_law 712 = .ok (.if_icmp .eq 5, 3) := by decide +kernel
theorem dL_law_715 : decode cL_law 715 = .ok (.iconst 0, 1) := by decide +kernel
theorem dL_law_716 : decode cL_law 716 = .ok (.ireturn, 1) := by decide +kernel
theorem dL_law_717 : decode cL_law 717 = .ok (.iload 5, 2) := by decide +kernel
theorem dL_law_719 : decode cL_law 719 = .ok (.ifCond .ne 15, 3) := by decide +kernel
theorem dL_law_722 : decode cL_law 722 = .ok (.aload_n 3, 1) := by decide +kernel
theorem dL_law_723 : decode cL_law 723 = .ok (.iconst 0, 1) := by decide +kernel
theorem dL_law_724 : decode cL_law 724 = .ok (.laload, 1) := by decide +kernel
theorem dL_law_725 : decode cL_law 725 = .ok (.iload 6, 2) := by decide +kernel
theorem dL_law_727 : decode cL_law 727 = .ok (.i2l, 1) := by decide +kernel
theorem dL_law_728 : decode cL_law 728 = .ok (.lcmp, 1) := by decide +kernel
theorem dL_law_729 : decode cL_law 729 = .ok (.ifCond .eq 5, 3) := by decide +kernel
theorem dL_law_732 : decode cL_law 732 = .ok (.iconst 0, 1) := by decide +kernel
theorem dL_law_733 : decode cL_law 733 = .ok (.ireturn, 1) := by decide +kernel
theorem dL_law_734 : decode cL_law 734 = .ok (.goto 1215, 3) := by decide +kernel
theorem dL_law_737 : decode cL_law 737 = .ok (.aload_n 1, 1) := by decide +kernel
theorem dL_law_738 : decode cL_law 738 = .ok (.aload_n 0, 1) := by decide +kernel
theorem dL_law_739 : decode cL_law 739 = .ok (.iload 4, 2) := by decide +kernel
theorem dL_law_741 : decode cL_law 741 = .ok (.iconst 1, 1) := by decide +kernel
theorem dL_law_742 : decode cL_law 742 = .ok (.iadd, 1) := by decide +kernel
theorem dL_law_743 : decode cL_law 743 = .ok (.iaload, 1) := by decide +kernel
theorem dL_law_744 : decode cL_law 744 = .ok (.aload_n 0, 1) := by decide +kernel
theorem dL_law_745 : decode cL_law 745 = .ok (.iload 4, 2) := by decide +kernel
theorem dL_law_747 : decode cL_law 747 = .ok (.iconst 2, 1) := by decide +kernel
theorem dL_law_748 : decode cL_law 748 = .ok (.iadd, 1) := by decide +kernel
theorem dL_law_749 : decode cL_law 749 = .ok (.iaload, 1) := by decide +kernel
theorem dL_law_750 : decode cL_law 750 = .ok (.aload_n 0, 1) := by decide +kernel
theorem dL_law_751 : decode cL_law 751 = .ok (.iload 4, 2) := by decide +kernel
theorem dL_law_753 : decode cL_law 753 = .ok (.iconst 3, 1) := by decide +kernel
theorem dL_law_754 : decode cL_law 754 = .ok (.iadd, 1) := by decide +kernel
theorem dL_law_755 : decode cL_law 755 = .ok (.iaload, 1) := by decide +kernel
theorem dL_law_756 : decode cL_law 756 = .ok (.aload_n 3, 1) := by decide +kernel
theorem dL_law_757 : decode cL_law 757 = .ok (.invokestatic 141, 3) := by decide +kernel
theorem dL_law_760 : decode cL_law 760 = .ok (.istore 5, 2) := by decide +kernel
theorem dL_law_762 : decode cL_law 762 = .ok (.aload_n 2, 1) := by decide +kernel
theorem dL_law_763 : decode cL_law 763 = .ok (.aload_n 0, 1) := by decide +kernel
theorem dL_law_764 : decode cL_law 764 = .ok (.iload 4, 2) := by decide +kernel
theorem dL_law_766 : decode cL_law 766 = .ok (.iconst 1, 1) := by decide +kernel
theorem dL_law_767 : decode cL_law 767 = .ok (.iadd, 1) := by decide +kernel
theorem dL_law_768 : decode cL_law 768 = .ok (.iaload, 1) := by decide +kernel
theorem dL_law_769 : decode cL_law 769 = .ok (.aload_n 0, 1) := by decide +kernel
theorem dL_law_770 : decode cL_law 770 = .ok (.iload 4, 2) := by decide +kernel
theorem dL_law_772 : decode cL_law 772 = .ok (.iconst 2, 1) := by decide +kernel
theorem dL_law_773 : decode cL_law 773 = .ok (.iadd, 1) := by decide +kernel
theorem dL_law_774 : decode cL_law 774 = .ok (.iaload, 1) := by decide +kernel
theorem dL_law_775 : decode cL_law 775 = .ok (.aload_n 0, 1) := by decide +kernel
theorem dL_law_776 : decode cL_law 776 = .ok (.iload 4, 2) := by decide +kernel
theorem dL_law_778 : decode cL_law 778 = .ok (.iconst 3, 1) := by decide +kernel
theorem dL_law_779 : decode cL_law 779 = .ok (.iadd, 1) := by decide +kernel
theorem dL_law_780 : decode cL_law 780 = .ok (.iaload, 1) := by decide +kernel
theorem dL_law_781 : decode cL_law 781 = .ok (.invokevirtual 143, 3) := by decide +kernel
theorem dL_law_784 : decode cL_law 784 = .ok (.istore 6, 2) := by decide +kernel
theorem dL_law_786 : decode cL_law 786 = .ok (.aload_n 2, 1) := by decide +kernel
theorem dL_law_787 : decode cL_law 787 = .ok (.invokevirtual 111, 3) := by decide +kernel
theorem dL_law_790 : decode cL_law 790 = .ok (.iload 5, 2) := by decide +kernel
theorem dL_law_792 : decode cL_law 792 = .ok (.if_icmp .eq 5, 3) := by decide +kernel
theorem dL_law_795 : decode cL_law 795 = .ok (.iconst 0, 1) := by decide +kernel
theorem dL_law_796 : decode cL_law 796 = .ok (.ireturn, 1) := by decide +kernel
theorem dL_law_797 : decode cL_law 797 = .ok (.iload 5, 2) := by decide +kernel
theorem dL_law_799 : decode cL_law 799 = .ok (.ifCond .ne 15, 3) := by decide +kernel
theorem dL_law_802 : decode cL_law 802 = .ok (.aload_n 3, 1) := by decide +kernel
theorem dL_law_803 : decode cL_law 803 = .ok (.iconst 0, 1) := by decide +kernel
theorem dL_law_804 : decode cL_law 804 = .ok (.laload, 1) := by decide +kernel
theorem dL_law_805 : decode cL_law 805 = .ok (.iload 6, 2) := by decide +kernel
theorem dL_law_807 : decode cL_law 807 = .ok (.i2l, 1) := by decide +kernel
theorem dL_law_808 : decode cL_law 808 = .ok (.lcmp, 1) := by decide +kernel
theorem dL_law_809 : decode cL_law 809 = .ok (.ifCond .eq 5, 3) := by decide +kernel
theorem dL_law_812 : decode cL_law 812 = .ok (.iconst 0, 1) := by decide +kernel
theorem dL_law_813 : decode cL_law 813 = .ok (.ireturn, 1) := by decide +kernel
theorem dL_law_814 : decode cL_law 814 = .ok (.goto 1135, 3) := by decide +kernel
theorem dL_law_817 : decode cL_law 817 = .ok (.aload_n 1, 1) := by decide +kernel
theorem dL_law_818 : decode cL_law 818 = .ok (.aload_n 0, 1) := by decide +kernel
theorem dL_law_819 : decode cL_law 819 = .ok (.iload 4, 2) := by decide +kernel
theorem dL_law_821 : decode cL_law 821 = .ok (.iconst 1, 1) := by decide +kernel
theorem dL_law_822 : decode cL_law 822 = .ok (.iadd, 1) := by decide +kernel
theorem dL_law_823 : decode cL_law 823 = .ok (.iaload, 1) := by decide +kernel
theorem dL_law_824 : decode cL_law 824 = .ok (.aload_n 3, 1) := by decide +kernel
theorem dL_law_825 : decode cL_law 825 = .ok (.invokestatic 144, 3) := by decide +kernel
theorem dL_law_828 : decode cL_law 828 = .ok (.istore 5, 2) := by decide +kernel
theorem dL_law_830 : decode cL_law 830 = .ok (.aload_n 2, 1) := by decide +kernel
theorem dL_law_831 : decode cL_law 831 = .ok (.aload_n 0, 1) := by decide +kernel
theorem dL_law_832 : decode cL_law 832 = .ok (.iload 4, 2) := by decide +kernel
theorem dL_law_834 : decode cL_law 834 = .ok (.iconst 1, 1) := by decide +kernel
theorem dL_law_835 : decode cL_law 835 = .ok (.iadd, 1) := by decide +kernel
theorem dL_law_836 : decode cL_law 836 = .ok (.iaload, 1) := by decide +kernel
theorem dL_law_837 : decode cL_law 837 = .ok (.invokevirtual 146, 3) := by decide +kernel
theorem dL_law_840 : decode cL_law 840 = .ok (.istore 6, 2) := by decide +kernel
theorem dL_law_842 : decode cL_law 842 = .ok (.aload_n 2, 1) := by decide +kernel
theorem dL_law_843 : decode cL_law 843 = .ok (.invokevirtual 111, 3) := by decide +kernel
theorem dL_law_846 : decode cL_law 846 = .ok (.iload 5, 2) := by decide +kernel
theorem dL_law_848 : decode cL_law 848 = .ok (.if_icmp .eq 5, 3) := by decide +kernel
theorem dL_law_851 : decode cL_law 851 = .ok (.iconst 0, 1) := by decide +kernel
theorem dL_law_852 : decode cL_law 852 = .ok (.ireturn, 1) := by decide +kernel
theorem dL_law_853 : decode cL_law 853 = .ok (.iload 5, 2) := by decide +kernel
theorem dL_law_855 : decode cL_law 855 = .ok (.ifCond .ne 15, 3) := by decide +kernel
theorem dL_law_858 : decode cL_law 858 = .ok (.aload_n 3, 1) := by decide +kernel
theorem dL_law_859 : decode cL_law 859 = .ok (.iconst 0, 1) := by decide +kernel
theorem dL_law_860 : decode cL_law 860 = .ok (.laload, 1) := by decide +kernel
theorem dL_law_861 : decode cL_law 861 = .ok (.iload 6, 2) := by decide +kernel
theorem dL_law_863 : decode cL_law 863 = .ok (.i2l, 1) := by decide +kernel
theorem dL_law_864 : decode cL_law 864 = .ok (.lcmp, 1) := by decide +kernel
theorem dL_law_865 : decode cL_law 865 = .ok (.ifCond .eq 5, 3) := by decide +kernel
theorem dL_law_868 : decode cL_law 868 = .ok (.iconst 0, 1) := by decide +kernel
theorem dL_law_869 : decode cL_law 869 = .ok (.ireturn, 1) := by decide +kernel
theorem dL_law_870 : decode cL_law 870 = .ok (.goto 1079, 3) := by decide +kernel
theorem dL_law_873 : decode cL_law 873 = .ok (.aload_n 1, 1) := by decide +kernel
theorem dL_law_874 : decode cL_law 874 = .ok (.aload_n 0, 1) := by decide +kernel
theorem dL_law_875 : decode cL_law 875 = .ok (.iload 4, 2) := by decide +kernel
theorem dL_law_877 : decode cL_law 877 = .ok (.iconst 1, 1) := by decide +kernel
theorem dL_law_878 : decode cL_law 878 = .ok (.iadd, 1) := by decide +kernel
theorem dL_law_879 : decode cL_law 879 = .ok (.iaload, 1) := by decide +kernel
theorem dL_law_880 : decode cL_law 880 = .ok (.aload_n 0, 1) := by decide +kernel
theorem dL_law_881 : decode cL_law 881 = .ok (.iload 4, 2) := by decide +kernel
theorem dL_law_883 : decode cL_law 883 = .ok (.iconst 2, 1) := by decide +kernel
theorem dL_law_884 : decode cL_law 884 = .ok (.iadd, 1) := by decide +kernel
theorem dL_law_885 : decode cL_law 885 = .ok (.iaload, 1) := by decide +kernel
theorem dL_law_886 : decode cL_law 886 = .ok (.aload_n 3, 1) := by decide +kernel
theorem dL_law_887 : decode cL_law 887 = .ok (.invokestatic 147, 3) := by decide +kernel
theorem dL_law_890 : decode cL_law 890 = .ok (.istore 5, 2) := by decide +kernel
theorem dL_law_892 : decode cL_law 892 = .ok (.aload_n 2, 1) := by decide +kernel
theorem dL_law_893 : decode cL_law 893 = .ok (.aload_n 0, 1) := by decide +kernel
theorem dL_law_894 : decode cL_law 894 = .ok (.iload 4, 2) := by decide +kernel
theorem dL_law_896 : decode cL_law 896 = .ok (.iconst 1, 1) := by decide +kernel
theorem dL_law_897 : decode cL_law 897 = .ok (.iadd, 1) := by decide +kernel
theorem dL_law_898 : decode cL_law 898 = .ok (.iaload, 1) := by decide +kernel
theorem dL_law_899 : decode cL_law 899 = .ok (.aload_n 0, 1) := by decide +kernel
theorem dL_law_900 : decode cL_law 900 = .ok (.iload 4, 2) := by decide +kernel
theorem dL_law_902 : decode cL_law 902 = .ok (.iconst 2, 1) := by decide +kernel
theorem dL_law_903 : decode cL_law 903 = .ok (.iadd, 1) := by decide +kernel
theorem dL_law_904 : decode cL_law 904 = .ok (.iaload, 1) := by decide +kernel
theorem dL_law_905 : decode cL_law 905 = .ok (.invokevirtual 149, 3) := by decide +kernel
theorem dL_law_908 : decode cL_law 908 = .ok (.istore 6, 2) := by decide +kernel
theorem dL_law_910 : decode cL_law 910 = .ok (.aload_n 2, 1) := by decide +kernel
theorem dL_law_911 : decode cL_law 911 = .ok (.invokevirtual 111, 3) := by decide +kernel
theorem dL_law_914 : decode cL_law 914 = .ok (.iload 5, 2) := by decide +kernel
theorem dL_law_916 : decode cL_law 916 = .ok (.if_icmp .eq 5, 3) := by decide +kernel
theorem dL_law_919 : decode cL_law 919 = .ok (.iconst 0, 1) := by decide +kernel
theorem dL_law_920 : decode cL_law 920 = .ok (.ireturn, 1) := by decide +kernel
theorem dL_law_921 : decode cL_law 921 = .ok (.iload 5, 2) := by decide +kernel
theorem dL_law_923 : decode cL_law 923 = .ok (.ifCond .ne 15, 3) := by decide +kernel
theorem dL_law_926 : decode cL_law 926 = .ok (.aload_n 3, 1) := by decide +kernel
theorem dL_law_927 : decode cL_law 927 = .ok (.iconst 0, 1) := by decide +kernel
theorem dL_law_928 : decode cL_law 928 = .ok (.laload, 1) := by decide +kernel
theorem dL_law_929 : decode cL_law 929 = .ok (.iload 6, 2) := by decide +kernel
theorem dL_law_931 : decode cL_law 931 = .ok (.i2l, 1) := by decide +kernel
theorem dL_law_932 : decode cL_law 932 = .ok (.lcmp, 1) := by decide +kernel
theorem dL_law_933 : decode cL_law 933 = .ok (.ifCond .eq 5, 3) := by decide +kernel
theorem dL_law_936 : decode cL_law 936 = .ok (.iconst 0, 1) := by decide +kernel
theorem dL_law_937 : decode cL_law 937 = .ok (.ireturn, 1) := by decide +kernel
theorem dL_law_938 : decode cL_law 938 = .ok (.goto 1011, 3) := by decide +kernel
theorem dL_law_941 : decode cL_law 941 = .ok (.aload_n 1, 1) := by decide +kernel
theorem dL_law_942 : decode cL_law 942 = .ok (.aload_n 3, 1) := by decide +kernel
theorem dL_law_943 : decode cL_law 943 = .ok (.invokestatic 150, 3) := by decide +kernel
theorem dL_law_946 : decode cL_law 946 = .ok (.istore 5, 2) := by decide +kernel
theorem dL_law_948 : decode cL_law 948 = .ok (.aload_n 2, 1) := by decide +kernel
theorem dL_law_949 : decode cL_law 949 = .ok (.invokevirtual 153, 3) := by decide +kernel
theorem dL_law_952 : decode cL_law 952 = .ok (.istore 6, 2) := by decide +kernel
theorem dL_law_954 : decode cL_law 954 = .ok (.aload_n 2, 1) := by decide +kernel
theorem dL_law_955 : decode cL_law 955 = .ok (.invokevirtual 111, 3) := by decide +kernel
theorem dL_law_958 : decode cL_law 958 = .ok (.iload 5, 2) := by decide +kernel
theorem dL_law_960 : decode cL_law 960 = .ok (.if_icmp .eq 5, 3) := by decide +kernel
theorem dL_law_963 : decode cL_law 963 = .ok (.iconst 0, 1) := by decide +kernel
theorem dL_law_964 : decode cL_law 964 = .ok (.ireturn, 1) := by decide +kernel
theorem dL_law_965 : decode cL_law 965 = .ok (.iload 5, 2) := by decide +kernel
theorem dL_law_967 : decode cL_law 967 = .ok (.ifCond .ne 15, 3) := by decide +kernel
theorem dL_law_970 : decode cL_law 970 = .ok (.aload_n 3, 1) := by decide +kernel
theorem dL_law_971 : decode cL_law 971 = .ok (.iconst 0, 1) := by decide +kernel
theorem dL_law_972 : decode cL_law 972 = .ok (.laload, 1) := by decide +kernel
theorem dL_law_973 : decode cL_law 973 = .ok (.iload 6, 2) := by decide +kernel
theorem dL_law_975 : decode cL_law 975 = .ok (.i2l, 1) := by decide +kernel
theorem dL_law_976 : decode cL_law 976 = .ok (.lcmp, 1) := by decide +kernel
theorem dL_law_977 : decode cL_law 977 = .ok (.ifCond .eq 5, 3) := by decide +kernel
theorem dL_law_980 : decode cL_law 980 = .ok (.iconst 0, 1) := by decide +kernel
theorem dL_law_981 : decode cL_law 981 = .ok (.ireturn, 1) := by decide +kernel
theorem dL_law_982 : decode cL_law 982 = .ok (.goto 967, 3) := by decide +kernel
theorem dL_law_985 : decode cL_law 985 = .ok (.aload_n 1, 1) := by decide +kernel
theorem dL_law_986 : decode cL_law 986 = .ok (.invokevirtual 154, 3) := by decide +kernel
theorem dL_law_989 : decode cL_law 989 = .ok (.aload_n 2, 1) := by decide +kernel
theorem dL_law_990 : decode cL_law 990 = .ok (.invokevirtual 157, 3) := by decide +kernel
theorem dL_law_993 : decode cL_law 993 = .ok (.if_icmp .eq 956, 3) := by decide +kernel
theorem dL_law_996 : decode cL_law 996 = .ok (.iconst 0, 1) := by decide +kernel
theorem dL_law_997 : decode cL_law 997 = .ok (.ireturn, 1) := by decide +kernel
theorem dL_law_998 : decode cL_law 998 = .ok (.aload_n 1, 1) := by decide +kernel
theorem dL_law_999 : decode cL_law 999 = .ok (.aload_n 0, 1) := by decide +kernel
theorem dL_law_1000 : decode cL_law 1000 = .ok (.iload 4, 2) := by decide +kernel
theorem dL_law_1002 : decode cL_law 1002 = .ok (.iconst 1, 1) := by decide +kernel
theorem dL_law_1003 : decode cL_law 1003 = .ok (.iadd, 1) := by decide +kernel
theorem dL_law_1004 : decode cL_law 1004 = .ok (.iaload, 1) := by decide +kernel
theorem dL_law_1005 : decode cL_law 1005 = .ok (.aload_n 3, 1) := by decide +kernel
theorem dL_law_1006 : decode cL_law 1006 = .ok (.invokestatic 158, 3) := by decide +kernel
theorem dL_law_1009 : decode cL_law 1009 = .ok (.istore 5, 2) := by decide +kernel
theorem dL_law_1011 : decode cL_law 1011 = .ok (.aload_n 2, 1) := by decide +kernel
theorem dL_law_1012 : decode cL_law 1012 = .ok (.aload_n 0, 1) := by decide +kernel
theorem dL_law_1013 : decode cL_law 1013 = .ok (.iload 4, 2) := by decide +kernel
theorem dL_law_1015 : decode cL_law 1015 = .ok (.iconst 1, 1) := by decide +kernel
theorem dL_law_1016 : decode cL_law 1016 = .ok (.iadd, 1) := by decide +kernel
theorem dL_law_1017 : decode cL_law 1017 = .ok (.iaload, 1) := by decide +kernel
theorem dL_law_1018 : decode cL_law 1018 = .ok (.invokevirtual 160, 3) := by decide +kernel
theorem dL_law_1021 : decode cL_law 1021 = .ok (.istore 6, 2) := by decide +kernel
theorem dL_law_1023 : decode cL_law 1023 = .ok (.aload_n 2, 1) := by decide +kernel
theorem dL_law_1024 : decode cL_law 1024 = .ok (.invokevirtual 111, 3) := by decide +kernel
theorem dL_law_1027 : decode cL_law 1027 = .ok (.iload 5, 2) := by decide +kernel
theorem dL_law_1029 : decode cL_law 1029 = .ok (.if_icmp .eq 5, 3) := by decide +kernel
theorem dL_law_1032 : decode cL_law 1032 = .ok (.iconst 0, 1) := by decide +kernel
theorem dL_law_1033 : decode cL_law 1033 = .ok (.ireturn, 1) := by decide +kernel
theorem dL_law_1034 : decode cL_law 1034 = .ok (.iload 5, 2) := by decide +kernel
theorem dL_law_1036 : decode cL_law 1036 = .ok (.ifCond .ne 15, 3) := by decide +kernel
theorem dL_law_1039 : decode cL_law 1039 = .ok (.aload_n 3, 1) := by decide +kernel
theorem dL_law_1040 : decode cL_law 1040 = .ok (.iconst 0, 1) := by decide +kernel
theorem dL_law_1041 : decode cL_law 1041 = .ok (.laload, 1) := by decide +kernel
theorem dL_law_1042 : decode cL_law 1042 = .ok (.iload 6, 2) := by decide +kernel
theorem dL_law_1044 : decode cL_law 1044 = .ok (.i2l, 1) := by decide +kernel
theorem dL_law_1045 : decode cL_law 1045 = .ok (.lcmp, 1) := by decide +kernel
theorem dL_law_1046 : decode cL_law 1046 = .ok (.ifCond .eq 5, 3) := by decide +kernel
theorem dL_law_1049 : decode cL_law 1049 = .ok (.iconst 0, 1) := by decide +kernel
theorem dL_law_1050 : decode cL_law 1050 = .ok (.ireturn, 1) := by decide +kernel
theorem dL_law_1051 : decode cL_law 1051 = .ok (.goto 898, 3) := by decide +kernel
theorem dL_law_1054 : decode cL_law 1054 = .ok (.aload_n 1, 1) := by decide +kernel
theorem dL_law_1055 : decode cL_law 1055 = .ok (.aload_n 0, 1) := by decide +kernel
theorem dL_law_1056 : decode cL_law 1056 = .ok (.iload 4, 2) := by decide +kernel
theorem dL_law_1058 : decode cL_law 1058 = .ok (.iconst 1, 1) := by decide +kernel
theorem dL_law_1059 : decode cL_law 1059 = .ok (.iadd, 1) := by decide +kernel
theorem dL_law_1060 : decode cL_law 1060 = .ok (.iaload, 1) := by decide +kernel
theorem dL_law_1061 : decode cL_law 1061 = .ok (.aload_n 0, 1) := by decide +kernel
theorem dL_law_1062 : decode cL_law 1062 = .ok (.iload 4, 2) := by decide +kernel
theorem dL_law_1064 : decode cL_law 1064 = .ok (.iconst 2, 1) := by decide +kernel
theorem dL_law_1065 : decode cL_law 1065 = .ok (.iadd, 1) := by decide +kernel
theorem dL_law_1066 : decode cL_law 1066 = .ok (.iaload, 1) := by decide +kernel
theorem dL_law_1067 : decode cL_law 1067 = .ok (.aload_n 0, 1) := by decide +kernel
theorem dL_law_1068 : decode cL_law 1068 = .ok (.iload 4, 2) := by decide +kernel
theorem dL_law_1070 : decode cL_law 1070 = .ok (.iconst 3, 1) := by decide +kernel
theorem dL_law_1071 : decode cL_law 1071 = .ok (.iadd, 1) := by decide +kernel
theorem dL_law_1072 : decode cL_law 1072 = .ok (.iaload, 1) := by decide +kernel
theorem dL_law_1073 : decode cL_law 1073 = .ok (.aload_n 0, 1) := by decide +kernel
theorem dL_law_1074 : decode cL_law 1074 = .ok (.iload 4, 2) := by decide +kernel
theorem dL_law_1076 : decode cL_law 1076 = .ok (.iconst 4, 1) := by decide +kernel
theorem dL_law_1077 : decode cL_law 1077 = .ok (.iadd, 1) := by decide +kernel
theorem dL_law_1078 : decode cL_law 1078 = .ok (.iaload, 1) := by decide +kernel
theorem dL_law_1079 : decode cL_law 1079 = .ok (.aload_n 3, 1) := by decide +kernel
theorem dL_law_1080 : decode cL_law 1080 = .ok (.invokestatic 161, 3) := by decide +kernel
theorem dL_law_1083 : decode cL_law 1083 = .ok (.istore 5, 2) := by decide +kernel
theorem dL_law_1085 : decode cL_law 1085 = .ok (.aload_n 2, 1) := by decide +kernel
theorem dL_law_1086 : decode cL_law 1086 = .ok (.aload_n 0, 1) := by decide +kernel
theorem dL_law_1087 : decode cL_law 1087 = .ok (.iload 4, 2) := by decide +kernel
theorem dL_law_1089 : decode cL_law 1089 = .ok (.iconst 1, 1) := by decide +kernel
theorem dL_law_1090 : decode cL_law 1090 = .ok (.iadd, 1) := by decide +kernel
theorem dL_law_1091 : decode cL_law 1091 = .ok (.iaload, 1) := by decide +kernel
theorem dL_law_1092 : decode cL_law 1092 = .ok (.aload_n 0, 1) := by decide +kernel
theorem dL_law_1093 : decode cL_law 1093 = .ok (.iload 4, 2) := by decide +kernel
theorem dL_law_1095 : decode cL_law 1095 = .ok (.iconst 2, 1) := by decide +kernel
theorem dL_law_1096 : decode cL_law 1096 = .ok (.iadd, 1) := by decide +kernel
theorem dL_law_1097 : decode cL_law 1097 = .ok (.iaload, 1) := by decide +kernel
theorem dL_law_1098 : decode cL_law 1098 = .ok (.aload_n 0, 1) := by decide +kernel
theorem dL_law_1099 : decode cL_law 1099 = .ok (.iload 4, 2) := by decide +kernel
theorem dL_law_1101 : decode cL_law 1101 = .ok (.iconst 3, 1) := by decide +kernel
theorem dL_law_1102 : decode cL_law 1102 = .ok (.iadd, 1) := by decide +kernel
theorem dL_law_1103 : decode cL_law 1103 = .ok (.iaload, 1) := by decide +kernel
theorem dL_law_1104 : decode cL_law 1104 = .ok (.aload_n 0, 1) := by decide +kernel
theorem dL_law_1105 : decode cL_law 1105 = .ok (.iload 4, 2) := by decide +kernel
theorem dL_law_1107 : decode cL_law 1107 = .ok (.iconst 4, 1) := by decide +kernel
theorem dL_law_1108 : decode cL_law 1108 = .ok (.iadd, 1) := by decide +kernel
theorem dL_law_1109 : decode cL_law 1109 = .ok (.iaload, 1) := by decide +kernel
theorem dL_law_1110 : decode cL_law 1110 = .ok (.invokevirtual 164, 3) := by decide +kernel
theorem dL_law_1113 : decode cL_law 1113 = .ok (.istore 6, 2) := by decide +kernel
theorem dL_law_1115 : decode cL_law 1115 = .ok (.aload_n 2, 1) := by decide +kernel
theorem dL_law_1116 : decode cL_law 1116 = .ok (.invokevirtual 111, 3) := by decide +kernel
theorem dL_law_1119 : decode cL_law 1119 = .ok (.iload 5, 2) := by decide +kernel
theorem dL_law_1121 : decode cL_law 1121 = .ok (.if_icmp .eq 5, 3) := by decide +kernel
theorem dL_law_1124 : decode cL_law 1124 = .ok (.iconst 0, 1) := by decide +kernel
theorem dL_law_1125 : decode cL_law 1125 = .ok (.ireturn, 1) := by decide +kernel
theorem dL_law_1126 : decode cL_law 1126 = .ok (.iload 5, 2) := by decide +kernel
theorem dL_law_1128 : decode cL_law 1128 = .ok (.ifCond .ne 22, 3) := by decide +kernel
theorem dL_law_1131 : decode cL_law 1131 = .ok (.aload_n 3, 1) := by decide +kernel
theorem dL_law_1132 : decode cL_law 1132 = .ok (.iconst 0, 1) := by decide +kernel
theorem dL_law_1133 : decode cL_law 1133 = .ok (.laload, 1) := by decide +kernel
theorem dL_law_1134 : decode cL_law 1134 = .ok (.iload 6, 2) := by decide +kernel
theorem dL_law_1136 : decode cL_law 1136 = .ok (.ifCond .eq 7, 3) := by decide +kernel
theorem dL_law_1139 : decode cL_law 1139 = .ok (.lconst 1, 1) := by decide +kernel
theorem dL_law_1140 : decode cL_law 1140 = .ok (.goto 4, 3) := by decide +kernel
theorem dL_law_1143 : decode cL_law 1143 = .ok (.lconst 0, 1) := by decide +kernel
theorem dL_law_1144 : decode cL_law 1144 = .ok (.lcmp, 1) := by decide +kernel
theorem dL_law_1145 : decode cL_law 1145 = .ok (.ifCond .eq 5, 3) := by decide +kernel
theorem dL_law_1148 : decode cL_law 1148 = .ok (.iconst 0, 1) := by decide +kernel
theorem dL_law_1149 : decode cL_law 1149 = .ok (.ireturn, 1) := by decide +kernel
theorem dL_law_1150 : decode cL_law 1150 = .ok (.goto 799, 3) := by decide +kernel
theorem dL_law_1153 : decode cL_law 1153 = .ok (.aload_n 1, 1) := by decide +kernel
theorem dL_law_1154 : decode cL_law 1154 = .ok (.aload_n 0, 1) := by decide +kernel
theorem dL_law_1155 : decode cL_law 1155 = .ok (.iload 4, 2) := by decide +kernel
theorem dL_law_1157 : decode cL_law 1157 = .ok (.iconst 1, 1) := by decide +kernel
theorem dL_law_1158 : decode cL_law 1158 = .ok (.iadd, 1) := by decide +kernel
theorem dL_law_1159 : decode cL_law 1159 = .ok (.iaload, 1) := by decide +kernel
theorem dL_law_1160 : decode cL_law 1160 = .ok (.aload_n 0, 1) := by decide +kernel
theorem dL_law_1161 : decode cL_law 1161 = .ok (.iload 4, 2) := by decide +kernel
theorem dL_law_1163 : decode cL_law 1163 = .ok (.iconst 2, 1) := by decide +kernel
theorem dL_law_1164 : decode cL_law 1164 = .ok (.iadd, 1) := by decide +kernel
theorem dL_law_1165 : decode cL_law 1165 = .ok (.iaload, 1) := by decide +kernel
theorem dL_law_1166 : decode cL_law 1166 = .ok (.aload_n 0, 1) := by decide +kernel
theorem dL_law_1167 : decode cL_law 1167 = .ok (.iload 4, 2) := by decide +kernel
theorem dL_law_1169 : decode cL_law 1169 = .ok (.iconst 3, 1) := by decide +kernel
theorem dL_law_1170 : decode cL_law 1170 = .ok (.iadd, 1) := by decide +kernel
theorem dL_law_1171 : decode cL_law 1171 = .ok (.iaload, 1) := by decide +kernel
theorem dL_law_1172 : decode cL_law 1172 = .ok (.aload_n 0, 1) := by decide +kernel
theorem dL_law_1173 : decode cL_law 1173 = .ok (.iload 4, 2) := by decide +kernel
theorem dL_law_1175 : decode cL_law 1175 = .ok (.iconst 4, 1) := by decide +kernel
theorem dL_law_1176 : decode cL_law 1176 = .ok (.iadd, 1) := by decide +kernel
theorem dL_law_1177 : decode cL_law 1177 = .ok (.iaload, 1) := by decide +kernel
theorem dL_law_1178 : decode cL_law 1178 = .ok (.aload_n 3, 1) := by decide +kernel
theorem dL_law_1179 : decode cL_law 1179 = .ok (.invokestatic 165, 3) := by decide +kernel
theorem dL_law_1182 : decode cL_law 1182 = .ok (.istore 5, 2) := by decide +kernel
theorem dL_law_1184 : decode cL_law 1184 = .ok (.aload_n 2, 1) := by decide +kernel
theorem dL_law_1185 : decode cL_law 1185 = .ok (.aload_n 0, 1) := by decide +kernel
theorem dL_law_1186 : decode cL_law 1186 = .ok (.iload 4, 2) := by decide +kernel
theorem dL_law_1188 : decode cL_law 1188 = .ok (.iconst 1, 1) := by decide +kernel
theorem dL_law_1189 : decode cL_law 1189 = .ok (.iadd, 1) := by decide +kernel
theorem dL_law_1190 : decode cL_law 1190 = .ok (.iaload, 1) := by decide +kernel
theorem dL_law_1191 : decode cL_law 1191 = .ok (.aload_n 0, 1) := by decide +kernel
theorem dL_law_1192 : decode cL_law 1192 = .ok (.iload 4, 2) := by decide +kernel
theorem dL_law_1194 : decode cL_law 1194 = .ok (.iconst 2, 1) := by decide +kernel
theorem dL_law_1195 : decode cL_law 1195 = .ok (.iadd, 1) := by decide +kernel
theorem dL_law_1196 : decode cL_law 1196 = .ok (.iaload, 1) := by decide +kernel
theorem dL_law_1197 : decode cL_law 1197 = .ok (.aload_n 0, 1) := by decide +kernel
theorem dL_law_1198 : decode cL_law 1198 = .ok (.iload 4, 2) := by decide +kernel
theorem dL_law_1200 : decode cL_law 1200 = .ok (.iconst 3, 1) := by decide +kernel
theorem dL_law_1201 : decode cL_law 1201 = .ok (.iadd, 1) := by decide +kernel
theorem dL_law_1202 : decode cL_law 1202 = .ok (.iaload, 1) := by decide +kernel
theorem dL_law_1203 : decode cL_law 1203 = .ok (.aload_n 0, 1) := by decide +kernel
theorem dL_law_1204 : decode cL_law 1204 = .ok (.iload 4, 2) := by decide +kernel
theorem dL_law_1206 : decode cL_law 1206 = .ok (.iconst 4, 1) := by decide +kernel
theorem dL_law_1207 : decode cL_law 1207 = .ok (.iadd, 1) := by decide +kernel
theorem dL_law_1208 : decode cL_law 1208 = .ok (.iaload, 1) := by decide +kernel
theorem dL_law_1209 : decode cL_law 1209 = .ok (.invokevirtual 167, 3) := by decide +kernel
theorem dL_law_1212 : decode cL_law 1212 = .ok (.istore 6, 2) := by decide +kernel
theorem dL_law_1214 : decode cL_law 1214 = .ok (.aload_n 2, 1) := by decide +kernel
theorem dL_law_1215 : decode cL_law 1215 = .ok (.invokevirtual 111, 3) := by decide +kernel
theorem dL_law_1218 : decode cL_law 1218 = .ok (.iload 5, 2) := by decide +kernel
theorem dL_law_1220 : decode cL_law 1220 = .ok (.if_icmp .eq 5, 3) := by decide +kernel
theorem dL_law_1223 : decode cL_law 1223 = .ok (.iconst 0, 1) := by decide +kernel
theorem dL_law_1224 : decode cL_law 1224 = .ok (.ireturn, 1) := by decide +kernel
theorem dL_law_1225 : decode cL_law 1225 = .ok (.iload 5, 2) := by decide +kernel
theorem dL_law_1227 : decode cL_law 1227 = .ok (.ifCond .ne 22, 3) := by decide +kernel
theorem dL_law_1230 : decode cL_law 1230 = .ok (.aload_n 3, 1) := by decide +kernel
theorem dL_law_1231 : decode cL_law 1231 = .ok (.iconst 0, 1) := by decide +kernel
theorem dL_law_1232 : decode cL_law 1232 = .ok (.laload, 1) := by decide +kernel
theorem dL_law_1233 : decode cL_law 1233 = .ok (.iload 6, 2) := by decide +kernel
theorem dL_law_1235 : decode cL_law 1235 = .ok (.ifCond .eq 7, 3) := by decide +kernel
theorem dL_law_1238 : decode cL_law 1238 = .ok (.lconst 1, 1) := by decide +kernel
theorem dL_law_1239 : decode cL_law 1239 = .ok (.goto 4, 3) := by decide +kernel
theorem dL_law_1242 : decode cL_law 1242 = .ok (.lconst 0, 1) := by decide +kernel
theorem dL_law_1243 : decode cL_law 1243 = .ok (.lcmp, 1) := by decide +kernel
theorem dL_law_1244 : decode cL_law 1244 = .ok (.ifCond .eq 5, 3) := by decide +kernel
theorem dL_law_1247 : decode cL_law 1247 = .ok (.iconst 0, 1) := by decide +kernel
theorem dL_law_1248 : decode cL_law 1248 = .ok (.ireturn, 1) := by decide +kernel
theorem dL_law_1249 : decode cL_law 1249 = .ok (.goto 700, 3) := by decide +kernel
theorem dL_law_1252 : decode cL_law 1252 = .ok (.aload_n 1, 1) := by decide +kernel
theorem dL_law_1253 : decode cL_law 1253 = .ok (.aload_n 0, 1) := by decide +kernel
theorem dL_law_1254 : decode cL_law 1254 = .ok (.iload 4, 2) := by decide +kernel
theorem dL_law_1256 : decode cL_law 1256 = .ok (.iconst 1, 1) := by decide +kernel
theorem dL_law_1257 : decode cL_law 1257 = .ok (.iadd, 1) := by decide +kernel
theorem dL_law_1258 : decode cL_law 1258 = .ok (.iaload, 1) := by decide +kernel
theorem dL_law_1259 : decode cL_law 1259 = .ok (.aload_n 0, 1) := by decide +kernel
theorem dL_law_1260 : decode cL_law 1260 = .ok (.iload 4, 2) := by decide +kernel
theorem dL_law_1262 : decode cL_law 1262 = .ok (.iconst 2, 1) := by decide +kernel
theorem dL_law_1263 : decode cL_law 1263 = .ok (.iadd, 1) := by decide +kernel
theorem dL_law_1264 : decode cL_law 1264 = .ok (.iaload, 1) := by decide +kernel
theorem dL_law_1265 : decode cL_law 1265 = .ok (.aload_n 3, 1) := by decide +kernel
theorem dL_law_1266 : decode cL_law 1266 = .ok (.invokestatic 168, 3) := by decide +kernel
theorem dL_law_1269 : decode cL_law 1269 = .ok (.istore 5, 2) := by decide +kernel
theorem dL_law_1271 : decode cL_law 1271 = .ok (.aload_n 2, 1) := by decide +kernel
theorem dL_law_1272 : decode cL_law 1272 = .ok (.aload_n 0, 1) := by decide +kernel
theorem dL_law_1273 : decode cL_law 1273 = .ok (.iload 4, 2) := by decide +kernel
theorem dL_law_1275 : decode cL_law 1275 = .ok (.iconst 1, 1) := by decide +kernel
theorem dL_law_1276 : decode cL_law 1276 = .ok (.iadd, 1) := by decide +kernel
theorem dL_law_1277 : decode cL_law 1277 = .ok (.iaload, 1) := by decide +kernel
theorem dL_law_1278 : decode cL_law 1278 = .ok (.aload_n 0, 1) := by decide +kernel
theorem dL_law_1279 : decode cL_law 1279 = .ok (.iload 4, 2) := by decide +kernel
theorem dL_law_1281 : decode cL_law 1281 = .ok (.iconst 2, 1) := by decide +kernel
theorem dL_law_1282 : decode cL_law 1282 = .ok (.iadd, 1) := by decide +kernel
theorem dL_law_1283 : decode cL_law 1283 = .ok (.iaload, 1) := by decide +kernel
theorem dL_law_1284 : decode cL_law 1284 = .ok (.invokevirtual 170, 3) := by decide +kernel
theorem dL_law_1287 : decode cL_law 1287 = .ok (.istore 6, 2) := by decide +kernel
theorem dL_law_1289 : decode cL_law 1289 = .ok (.aload_n 2, 1) := by decide +kernel
theorem dL_law_1290 : decode cL_law 1290 = .ok (.invokevirtual 111, 3) := by decide +kernel
theorem dL_law_1293 : decode cL_law 1293 = .ok (.iload 5, 2) := by decide +kernel
theorem dL_law_1295 : decode cL_law 1295 = .ok (.if_icmp .eq 5, 3) := by decide +kernel
theorem dL_law_1298 : decode cL_law 1298 = .ok (.iconst 0, 1) := by decide +kernel
theorem dL_law_1299 : decode cL_law 1299 = .ok (.ireturn, 1) := by decide +kernel
theorem dL_law_1300 : decode cL_law 1300 = .ok (.iload 5, 2) := by decide +kernel
theorem dL_law_1302 : decode cL_law 1302 = .ok (.ifCond .ne 22, 3) := by decide +kernel
theorem dL_law_1305 : decode cL_law 1305 = .ok (.aload_n 3, 1) := by decide +kernel
theorem dL_law_1306 : decode cL_law 1306 = .ok (.iconst 0, 1) := by decide +kernel
theorem dL_law_1307 : decode cL_law 1307 = .ok (.laload, 1) := by decide +kernel
theorem dL_law_1308 : decode cL_law 1308 = .ok (.iload 6, 2) := by decide +kernel
theorem dL_law_1310 : decode cL_law 1310 = .ok (.ifCond .eq 7, 3) := by decide +kernel
theorem dL_law_1313 : decode cL_law 1313 = .ok (.lconst 1, 1) := by decide +kernel
theorem dL_law_1314 : decode cL_law 1314 = .ok (.goto 4, 3) := by decide +kernel
theorem dL_law_1317 : decode cL_law 1317 = .ok (.lconst 0, 1) := by decide +kernel
theorem dL_law_1318 : decode cL_law 1318 = .ok (.lcmp, 1) := by decide +kernel
theorem dL_law_1319 : decode cL_law 1319 = .ok (.ifCond .eq 5, 3) := by decide +kernel
theorem dL_law_1322 : decode cL_law 1322 = .ok (.iconst 0, 1) := by decide +kernel
theorem dL_law_1323 : decode cL_law 1323 = .ok (.ireturn, 1) := by decide +kernel
theorem dL_law_1324 : decode cL_law 1324 = .ok (.goto 625, 3) := by decide +kernel
theorem dL_law_1327 : decode cL_law 1327 = .ok (.aload_n 1, 1) := by decide +kernel
theorem dL_law_1328 : decode cL_law 1328 = .ok (.aload_n 0, 1) := by decide +kernel
theorem dL_law_1329 : decode cL_law 1329 = .ok (.iload 4, 2) := by decide +kernel
theorem dL_law_1331 : decode cL_law 1331 = .ok (.iconst 1, 1) := by decide +kernel
theorem dL_law_1332 : decode cL_law 1332 = .ok (.iadd, 1) := by decide +kernel
theorem dL_law_1333 : decode cL_law 1333 = .ok (.iaload, 1) := by decide +kernel
theorem dL_law_1334 : decode cL_law 1334 = .ok (.aload_n 0, 1) := by decide +kernel
theorem dL_law_1335 : decode cL_law 1335 = .ok (.iload 4, 2) := by decide +kernel
theorem dL_law_1337 : decode cL_law 1337 = .ok (.iconst 2, 1) := by decide +kernel
theorem dL_law_1338 : decode cL_law 1338 = .ok (.iadd, 1) := by decide +kernel
theorem dL_law_1339 : decode cL_law 1339 = .ok (.iaload, 1) := by decide +kernel
theorem dL_law_1340 : decode cL_law 1340 = .ok (.aload_n 3, 1) := by decide +kernel
theorem dL_law_1341 : decode cL_law 1341 = .ok (.invokestatic 171, 3) := by decide +kernel
theorem dL_law_1344 : decode cL_law 1344 = .ok (.istore 5, 2) := by decide +kernel
theorem dL_law_1346 : decode cL_law 1346 = .ok (.aload_n 2, 1) := by decide +kernel
theorem dL_law_1347 : decode cL_law 1347 = .ok (.aload_n 0, 1) := by decide +kernel
theorem dL_law_1348 : decode cL_law 1348 = .ok (.iload 4, 2) := by decide +kernel
theorem dL_law_1350 : decode cL_law 1350 = .ok (.iconst 1, 1) := by decide +kernel
theorem dL_law_1351 : decode cL_law 1351 = .ok (.iadd, 1) := by decide +kernel
theorem dL_law_1352 : decode cL_law 1352 = .ok (.iaload, 1) := by decide +kernel
theorem dL_law_1353 : decode cL_law 1353 = .ok (.aload_n 0, 1) := by decide +kernel
theorem dL_law_1354 : decode cL_law 1354 = .ok (.iload 4, 2) := by decide +kernel
theorem dL_law_1356 : decode cL_law 1356 = .ok (.iconst 2, 1) := by decide +kernel
theorem dL_law_1357 : decode cL_law 1357 = .ok (.iadd, 1) := by decide +kernel
theorem dL_law_1358 : decode cL_law 1358 = .ok (.iaload, 1) := by decide +kernel
theorem dL_law_1359 : decode cL_law 1359 = .ok (.invokevirtual 173, 3) := by decide +kernel
theorem dL_law_1362 : decode cL_law 1362 = .ok (.istore 6, 2) := by decide +kernel
theorem dL_law_1364 : decode cL_law 1364 = .ok (.aload_n 2, 1) := by decide +kernel
theorem dL_law_1365 : decode cL_law 1365 = .ok (.invokevirtual 111, 3) := by decide +kernel
theorem dL_law_1368 : decode cL_law 1368 = .ok (.iload 5, 2) := by decide +kernel
theorem dL_law_1370 : decode cL_law 1370 = .ok (.if_icmp .eq 5, 3) := by decide +kernel
theorem dL_law_1373 : decode cL_law 1373 = .ok (.iconst 0, 1) := by decide +kernel
theorem dL_law_1374 : decode cL_law 1374 = .ok (.ireturn, 1) := by decide +kernel
theorem dL_law_1375 : decode cL_law 1375 = .ok (.iload 5, 2) := by decide +kernel
theorem dL_law_1377 : decode cL_law 1377 = .ok (.ifCond .ne 15, 3) := by decide +kernel
theorem dL_law_1380 : decode cL_law 1380 = .ok (.aload_n 3, 1) := by decide +kernel
theorem dL_law_1381 : decode cL_law 1381 = .ok (.iconst 0, 1) := by decide +kernel
theorem dL_law_1382 : decode cL_law 1382 = .ok (.laload, 1) := by decide +kernel
theorem dL_law_1383 : decode cL_law 1383 = .ok (.iload 6, 2) := by decide +kernel
theorem dL_law_1385 : decode cL_law 1385 = .ok (.i2l, 1) := by decide +kernel
theorem dL_law_1386 : decode cL_law 1386 = .ok (.lcmp, 1) := by decide +kernel
theorem dL_law_1387 : decode cL_law 1387 = .ok (.ifCond .eq 5, 3) := by decide +kernel
theorem dL_law_1390 : decode cL_law 1390 = .ok (.iconst 0, 1) := by decide +kernel
theorem dL_law_1391 : decode cL_law 1391 = .ok (.ireturn, 1) := by decide +kernel
theorem dL_law_1392 : decode cL_law 1392 = .ok (.goto 557, 3) := by decide +kernel
theorem dL_law_1395 : decode cL_law 1395 = .ok (.aload_n 1, 1) := by decide +kernel
theorem dL_law_1396 : decode cL_law 1396 = .ok (.aload_n 0, 1) := by decide +kernel
theorem dL_law_1397 : decode cL_law 1397 = .ok (.iload 4, 2) := by decide +kernel
theorem dL_law_1399 : decode cL_law 1399 = .ok (.iconst 1, 1) := by decide +kernel
theorem dL_law_1400 : decode cL_law 1400 = .ok (.iadd, 1) := by decide +kernel
theorem dL_law_1401 : decode cL_law 1401 = .ok (.iaload, 1) := by decide +kernel
theorem dL_law_1402 : decode cL_law 1402 = .ok (.aload_n 3, 1) := by decide +kernel
theorem dL_law_1403 : decode cL_law 1403 = .ok (.invokestatic 174, 3) := by decide +kernel
theorem dL_law_1406 : decode cL_law 1406 = .ok (.istore 5, 2) := by decide +kernel
theorem dL_law_1408 : decode cL_law 1408 = .ok (.aload_n 2, 1) := by decide +kernel
theorem dL_law_1409 : decode cL_law 1409 = .ok (.aload_n 0, 1) := by decide +kernel
theorem dL_law_1410 : decode cL_law 1410 = .ok (.iload 4, 2) := by decide +kernel
theorem dL_law_1412 : decode cL_law 1412 = .ok (.iconst 1, 1) := by decide +kernel
theorem dL_law_1413 : decode cL_law 1413 = .ok (.iadd, 1) := by decide +kernel
theorem dL_law_1414 : decode cL_law 1414 = .ok (.iaload, 1) := by decide +kernel
theorem dL_law_1415 : decode cL_law 1415 = .ok (.invokevirtual 176, 3) := by decide +kernel
theorem dL_law_1418 : decode cL_law 1418 = .ok (.istore 6, 2) := by decide +kernel
theorem dL_law_1420 : decode cL_law 1420 = .ok (.aload_n 2, 1) := by decide +kernel
theorem dL_law_1421 : decode cL_law 1421 = .ok (.invokevirtual 111, 3) := by decide +kernel
theorem dL_law_1424 : decode cL_law 1424 = .ok (.iload 5, 2) := by decide +kernel
theorem dL_law_1426 : decode cL_law 1426 = .ok (.if_icmp .eq 5, 3) := by decide +kernel
theorem dL_law_1429 : decode cL_law 1429 = .ok (.iconst 0, 1) := by decide +kernel
theorem dL_law_1430 : decode cL_law 1430 = .ok (.ireturn, 1) := by decide +kernel
theorem dL_law_1431 : decode cL_law 1431 = .ok (.iload 5, 2) := by decide +kernel
theorem dL_law_1433 : decode cL_law 1433 = .ok (.ifCond .ne 15, 3) := by decide +kernel
theorem dL_law_1436 : decode cL_law 1436 = .ok (.aload_n 3, 1) := by decide +kernel
theorem dL_law_1437 : decode cL_law 1437 = .ok (.iconst 0, 1) := by decide +kernel
theorem dL_law_1438 : decode cL_law 1438 = .ok (.laload, 1) := by decide +kernel
theorem dL_law_1439 : decode cL_law 1439 = .ok (.iload 6, 2) := by decide +kernel
theorem dL_law_1441 : decode cL_law 1441 = .ok (.i2l, 1) := by decide +kernel
theorem dL_law_1442 : decode cL_law 1442 = .ok (.lcmp, 1) := by decide +kernel
theorem dL_law_1443 : decode cL_law 1443 = .ok (.ifCond .eq 5, 3) := by decide +kernel
theorem dL_law_1446 : decode cL_law 1446 = .ok (.iconst 0, 1) := by decide +kernel
theorem dL_law_1447 : decode cL_law 1447 = .ok (.ireturn, 1) := by decide +kernel
theorem dL_law_1448 : decode cL_law 1448 = .ok (.goto 501, 3) := by decide +kernel
theorem dL_law_1451 : decode cL_law 1451 = .ok (.aload_n 1, 1) := by decide +kernel
theorem dL_law_1452 : decode cL_law 1452 = .ok (.aload_n 0, 1) := by decide +kernel
theorem dL_law_1453 : decode cL_law 1453 = .ok (.iload 4, 2) := by decide +kernel
theorem dL_law_1455 : decode cL_law 1455 = .ok (.iconst 1, 1) := by decide +kernel
theorem dL_law_1456 : decode cL_law 1456 = .ok (.iadd, 1) := by decide +kernel
theorem dL_law_1457 : decode cL_law 1457 = .ok (.iaload, 1) := by decide +kernel
theorem dL_law_1458 : decode cL_law 1458 = .ok (.aload_n 3, 1) := by decide +kernel
theorem dL_law_1459 : decode cL_law 1459 = .ok (.invokestatic 177, 3) := by decide +kernel
theorem dL_law_1462 : decode cL_law 1462 = .ok (.istore 5, 2) := by decide +kernel
theorem dL_law_1464 : decode cL_law 1464 = .ok (.aload_n 2, 1) := by decide +kernel
theorem dL_law_1465 : decode cL_law 1465 = .ok (.aload_n 0, 1) := by decide +kernel
theorem dL_law_1466 : decode cL_law 1466 = .ok (.iload 4, 2) := by decide +kernel
theorem dL_law_1468 : decode cL_law 1468 = .ok (.iconst 1, 1) := by decide +kernel
theorem dL_law_1469 : decode cL_law 1469 = .ok (.iadd, 1) := by decide +kernel
theorem dL_law_1470 : decode cL_law 1470 = .ok (.iaload, 1) := by decide +kernel
theorem dL_law_1471 : decode cL_law 1471 = .ok (.invokevirtual 179, 3) := by decide +kernel
theorem dL_law_1474 : decode cL_law 1474 = .ok (.istore 6, 2) := by decide +kernel
theorem dL_law_1476 : decode cL_law 1476 = .ok (.aload_n 2, 1) := by decide +kernel
theorem dL_law_1477 : decode cL_law 1477 = .ok (.invokevirtual 111, 3) := by decide +kernel
theorem dL_law_1480 : decode cL_law 1480 = .ok (.iload 5, 2) := by decide +kernel
theorem dL_law_1482 : decode cL_law 1482 = .ok (.if_icmp .eq 5, 3) := by decide +kernel
theorem dL_law_1485 : decode cL_law 1485 = .ok (.iconst 0, 1) := by decide +kernel
theorem dL_law_1486 : decode cL_law 1486 = .ok (.ireturn, 1) := by decide +kernel
theorem dL_law_1487 : decode cL_law 1487 = .ok (.iload 5, 2) := by decide +kernel
theorem dL_law_1489 : decode cL_law 1489 = .ok (.ifCond .ne 15, 3) := by decide +kernel
theorem dL_law_1492 : decode cL_law 1492 = .ok (.aload_n 3, 1) := by decide +kernel
theorem dL_law_1493 : decode cL_law 1493 = .ok (.iconst 0, 1) := by decide +kernel
theorem dL_law_1494 : decode cL_law 1494 = .ok (.laload, 1) := by decide +kernel
theorem dL_law_1495 : decode cL_law 1495 = .ok (.iload 6, 2) := by decide +kernel
theorem dL_law_1497 : decode cL_law 1497 = .ok (.i2l, 1) := by decide +kernel
theorem dL_law_1498 : decode cL_law 1498 = .ok (.lcmp, 1) := by decide +kernel
theorem dL_law_1499 : decode cL_law 1499 = .ok (.ifCond .eq 5, 3) := by decide +kernel
theorem dL_law_1502 : decode cL_law 1502 = .ok (.iconst 0, 1) := by decide +kernel
theorem dL_law_1503 : decode cL_law 1503 = .ok (.ireturn, 1) := by decide +kernel
theorem dL_law_1504 : decode cL_law 1504 = .ok (.goto 445, 3) := by decide +kernel
theorem dL_law_1507 : decode cL_law 1507 = .ok (.aload_n 1, 1) := by decide +kernel
theorem dL_law_1508 : decode cL_law 1508 = .ok (.invokevirtual 180, 3) := by decide +kernel
theorem dL_law_1511 : decode cL_law 1511 = .ok (.aload_n 2, 1) := by decide +kernel
theorem dL_law_1512 : decode cL_law 1512 = .ok (.invokevirtual 183, 3) := by decide +kernel
theorem dL_law_1515 : decode cL_law 1515 = .ok (.if_icmp .eq 434, 3) := by decide +kernel
theorem dL_law_1518 : decode cL_law 1518 = .ok (.iconst 0, 1) := by decide +kernel
theorem dL_law_1519 : decode cL_law 1519 = .ok (.ireturn, 1) := by decide +kernel
theorem dL_law_1520 : decode cL_law 1520 = .ok (.aload_n 1, 1) := by decide +kernel
theorem dL_law_1521 : decode cL_law 1521 = .ok (.aload_n 0, 1) := by decide +kernel
theorem dL_law_1522 : decode cL_law 1522 = .ok (.iload 4, 2) := by decide +kernel
theorem dL_law_1524 : decode cL_law 1524 = .ok (.iconst 1, 1) := by decide +kernel
theorem dL_law_1525 : decode cL_law 1525 = .ok (.iadd, 1) := by decide +kernel
theorem dL_law_1526 : decode cL_law 1526 = .ok (.iaload, 1) := by decide +kernel
theorem dL_law_1527 : decode cL_law 1527 = .ok (.aload_n 0, 1) := by decide +kernel
theorem dL_law_1528 : decode cL_law 1528 = .ok (.iload 4, 2) := by decide +kernel
theorem dL_law_1530 : decode cL_law 1530 = .ok (.iconst 2, 1) := by decide +kernel
theorem dL_law_1531 : decode cL_law 1531 = .ok (.iadd, 1) := by decide +kernel
theorem dL_law_1532 : decode cL_law 1532 = .ok (.iaload, 1) := by decide +kernel
theorem dL_law_1533 : decode cL_law 1533 = .ok (.aload_n 3, 1) := by decide +kernel
theorem dL_law_1534 : decode cL_law 1534 = .ok (.invokestatic 184, 3) := by decide +kernel
theorem dL_law_1537 : decode cL_law 1537 = .ok (.istore 5, 2) := by decide +kernel
theorem dL_law_1539 : decode cL_law 1539 = .ok (.aload_n 2, 1) := by decide +kernel
theorem dL_law_1540 : decode cL_law 1540 = .ok (.aload_n 0, 1) := by decide +kernel
theorem dL_law_1541 : decode cL_law 1541 = .ok (.iload 4, 2) := by decide +kernel
theorem dL_law_1543 : decode cL_law 1543 = .ok (.iconst 1, 1) := by decide +kernel
theorem dL_law_1544 : decode cL_law 1544 = .ok (.iadd, 1) := by decide +kernel
theorem dL_law_1545 : decode cL_law 1545 = .ok (.iaload, 1) := by decide +kernel
theorem dL_law_1546 : decode cL_law 1546 = .ok (.aload_n 0, 1) := by decide +kernel
theorem dL_law_1547 : decode cL_law 1547 = .ok (.iload 4, 2) := by decide +kernel
theorem dL_law_1549 : decode cL_law 1549 = .ok (.iconst 2, 1) := by decide +kernel
theorem dL_law_1550 : decode cL_law 1550 = .ok (.iadd, 1) := by decide +kernel
theorem dL_law_1551 : decode cL_law 1551 = .ok (.iaload, 1) := by decide +kernel
theorem dL_law_1552 : decode cL_law 1552 = .ok (.invokevirtual 186, 3) := by decide +kernel
theorem dL_law_1555 : decode cL_law 1555 = .ok (.istore 6, 2) := by decide +kernel
theorem dL_law_1557 : decode cL_law 1557 = .ok (.aload_n 2, 1) := by decide +kernel
theorem dL_law_1558 : decode cL_law 1558 = .ok (.invokevirtual 111, 3) := by decide +kernel
theorem dL_law_1561 : decode cL_law 1561 = .ok (.iload 5, 2) := by decide +kernel
theorem dL_law_1563 : decode cL_law 1563 = .ok (.if_icmp .eq 5, 3) := by decide +kernel
theorem dL_law_1566 : decode cL_law 1566 = .ok (.iconst 0, 1) := by decide +kernel
theorem dL_law_1567 : decode cL_law 1567 = .ok (.ireturn, 1) := by decide +kernel
theorem dL_law_1568 : decode cL_law 1568 = .ok (.iload 5, 2) := by decide +kernel
theorem dL_law_1570 : decode cL_law 1570 = .ok (.ifCond .ne 22, 3) := by decide +kernel
theorem dL_law_1573 : decode cL_law 1573 = .ok (.aload_n 3, 1) := by decide +kernel
theorem dL_law_1574 : decode cL_law 1574 = .ok (.iconst 0, 1) := by decide +kernel
theorem dL_law_1575 : decode cL_law 1575 = .ok (.laload, 1) := by decide +kernel
theorem dL_law_1576 : decode cL_law 1576 = .ok (.iload 6, 2) := by decide +kernel
theorem dL_law_1578 : decode cL_law 1578 = .ok (.ifCond .eq 7, 3) := by decide +kernel
theorem dL_law_1581 : decode cL_law 1581 = .ok (.lconst 1, 1) := by decide +kernel
theorem dL_law_1582 : decode cL_law 1582 = .ok (.goto 4, 3) := by decide +kernel
theorem dL_law_1585 : decode cL_law 1585 = .ok (.lconst 0, 1) := by decide +kernel
theorem dL_law_1586 : decode cL_law 1586 = .ok (.lcmp, 1) := by decide +kernel
theorem dL_law_1587 : decode cL_law 1587 = .ok (.ifCond .eq 5, 3) := by decide +kernel
theorem dL_law_1590 : decode cL_law 1590 = .ok (.iconst 0, 1) := by decide +kernel
theorem dL_law_1591 : decode cL_law 1591 = .ok (.ireturn, 1) := by decide +kernel
theorem dL_law_1592 : decode cL_law 1592 = .ok (.goto 357, 3) := by decide +kernel
theorem dL_law_1595 : decode cL_law 1595 = .ok (.aload_n 1, 1) := by decide +kernel
theorem dL_law_1596 : decode cL_law 1596 = .ok (.aload_n 0, 1) := by decide +kernel
theorem dL_law_1597 : decode cL_law 1597 = .ok (.iload 4, 2) := by decide +kernel
theorem dL_law_1599 : decode cL_law 1599 = .ok (.iconst 1, 1) := by decide +kernel
theorem dL_law_1600 : decode cL_law 1600 = .ok (.iadd, 1) := by decide +kernel
theorem dL_law_1601 : decode cL_law 1601 = .ok (.iaload, 1) := by decide +kernel
theorem dL_law_1602 : decode cL_law 1602 = .ok (.aload_n 0, 1) := by decide +kernel
theorem dL_law_1603 : decode cL_law 1603 = .ok (.iload 4, 2) := by decide +kernel
theorem dL_law_1605 : decode cL_law 1605 = .ok (.iconst 2, 1) := by decide +kernel
theorem dL_law_1606 : decode cL_law 1606 = .ok (.iadd, 1) := by decide +kernel
theorem dL_law_1607 : decode cL_law 1607 = .ok (.iaload, 1) := by decide +kernel
theorem dL_law_1608 : decode cL_law 1608 = .ok (.aload_n 3, 1) := by decide +kernel
theorem dL_law_1609 : decode cL_law 1609 = .ok (.invokestatic 187, 3) := by decide +kernel
theorem dL_law_1612 : decode cL_law 1612 = .ok (.istore 5, 2) := by decide +kernel
theorem dL_law_1614 : decode cL_law 1614 = .ok (.aload_n 2, 1) := by decide +kernel
theorem dL_law_1615 : decode cL_law 1615 = .ok (.aload_n 0, 1) := by decide +kernel
theorem dL_law_1616 : decode cL_law 1616 = .ok (.iload 4, 2) := by decide +kernel
theorem dL_law_1618 : decode cL_law 1618 = .ok (.iconst 1, 1) := by decide +kernel
theorem dL_law_1619 : decode cL_law 1619 = .ok (.iadd, 1) := by decide +kernel
theorem dL_law_1620 : decode cL_law 1620 = .ok (.iaload, 1) := by decide +kernel
theorem dL_law_1621 : decode cL_law 1621 = .ok (.aload_n 0, 1) := by decide +kernel
theorem dL_law_1622 : decode cL_law 1622 = .ok (.iload 4, 2) := by decide +kernel
theorem dL_law_1624 : decode cL_law 1624 = .ok (.iconst 2, 1) := by decide +kernel
theorem dL_law_1625 : decode cL_law 1625 = .ok (.iadd, 1) := by decide +kernel
theorem dL_law_1626 : decode cL_law 1626 = .ok (.iaload, 1) := by decide +kernel
theorem dL_law_1627 : decode cL_law 1627 = .ok (.invokevirtual 189, 3) := by decide +kernel
theorem dL_law_1630 : decode cL_law 1630 = .ok (.istore 6, 2) := by decide +kernel
theorem dL_law_1632 : decode cL_law 1632 = .ok (.aload_n 2, 1) := by decide +kernel
theorem dL_law_1633 : decode cL_law 1633 = .ok (.invokevirtual 111, 3) := by decide +kernel
theorem dL_law_1636 : decode cL_law 1636 = .ok (.iload 5, 2) := by decide +kernel
theorem dL_law_1638 : decode cL_law 1638 = .ok (.if_icmp .eq 5, 3) := by decide +kernel
theorem dL_law_1641 : decode cL_law 1641 = .ok (.iconst 0, 1) := by decide +kernel
theorem dL_law_1642 : decode cL_law 1642 = .ok (.ireturn, 1) := by decide +kernel
theorem dL_law_1643 : decode cL_law 1643 = .ok (.iload 5, 2) := by decide +kernel
theorem dL_law_1645 : decode cL_law 1645 = .ok (.ifCond .ne 22, 3) := by decide +kernel
theorem dL_law_1648 : decode cL_law 1648 = .ok (.aload_n 3, 1) := by decide +kernel
theorem dL_law_1649 : decode cL_law 1649 = .ok (.iconst 0, 1) := by decide +kernel
theorem dL_law_1650 : decode cL_law 1650 = .ok (.laload, 1) := by decide +kernel
theorem dL_law_1651 : decode cL_law 1651 = .ok (.iload 6, 2) := by decide +kernel
theorem dL_law_1653 : decode cL_law 1653 = .ok (.ifCond .eq 7, 3) := by decide +kernel
theorem dL_law_1656 : decode cL_law 1656 = .ok (.lconst 1, 1) := by decide +kernel
theorem dL_law_1657 : decode cL_law 1657 = .ok (.goto 4, 3) := by decide +kernel
theorem dL_law_1660 : decode cL_law 1660 = .ok (.lconst 0, 1) := by decide +kernel
theorem dL_law_1661 : decode cL_law 1661 = .ok (.lcmp, 1) := by decide +kernel
theorem dL_law_1662 : decode cL_law 1662 = .ok (.ifCond .eq 5, 3) := by decide +kernel
theorem dL_law_1665 : decode cL_law 1665 = .ok (.iconst 0, 1) := by decide +kernel
theorem dL_law_1666 : decode cL_law 1666 = .ok (.ireturn, 1) := by decide +kernel
theorem dL_law_1667 : decode cL_law 1667 = .ok (.goto 282, 3) := by decide +kernel
theorem dL_law_1670 : decode cL_law 1670 = .ok (.aload_n 1, 1) := by decide +kernel
theorem dL_law_1671 : decode cL_law 1671 = .ok (.aload_n 0, 1) := by decide +kernel
theorem dL_law_1672 : decode cL_law 1672 = .ok (.iload 4, 2) := by decide +kernel
theorem dL_law_1674 : decode cL_law 1674 = .ok (.iconst 1, 1) := by decide +kernel
theorem dL_law_1675 : decode cL_law 1675 = .ok (.iadd, 1) := by decide +kernel
theorem dL_law_1676 : decode cL_law 1676 = .ok (.iaload, 1) := by decide +kernel
theorem dL_law_1677 : decode cL_law 1677 = .ok (.aload_n 0, 1) := by decide +kernel
theorem dL_law_1678 : decode cL_law 1678 = .ok (.iload 4, 2) := by decide +kernel
theorem dL_law_1680 : decode cL_law 1680 = .ok (.iconst 2, 1) := by decide +kernel
theorem dL_law_1681 : decode cL_law 1681 = .ok (.iadd, 1) := by decide +kernel
theorem dL_law_1682 : decode cL_law 1682 = .ok (.iaload, 1) := by decide +kernel
theorem dL_law_1683 : decode cL_law 1683 = .ok (.invokestatic 190, 3) := by decide +kernel
theorem dL_law_1686 : decode cL_law 1686 = .ok (.istore 5, 2) := by decide +kernel
theorem dL_law_1688 : decode cL_law 1688 = .ok (.aload_n 2, 1) := by decide +kernel
theorem dL_law_1689 : decode cL_law 1689 = .ok (.aload_n 0, 1) := by decide +kernel
theorem dL_law_1690 : decode cL_law 1690 = .ok (.iload 4, 2) := by decide +kernel
theorem dL_law_1692 : decode cL_law 1692 = .ok (.iconst 1, 1) := by decide +kernel
theorem dL_law_1693 : decode cL_law 1693 = .ok (.iadd, 1) := by decide +kernel
theorem dL_law_1694 : decode cL_law 1694 = .ok (.iaload, 1) := by decide +kernel
theorem dL_law_1695 : decode cL_law 1695 = .ok (.aload_n 0, 1) := by decide +kernel
theorem dL_law_1696 : decode cL_law 1696 = .ok (.iload 4, 2) := by decide +kernel
theorem dL_law_1698 : decode cL_law 1698 = .ok (.iconst 2, 1) := by decide +kernel
theorem dL_law_1699 : decode cL_law 1699 = .ok (.iadd, 1) := by decide +kernel
theorem dL_law_1700 : decode cL_law 1700 = .ok (.iaload, 1) := by decide +kernel
theorem dL_law_1701 : decode cL_law 1701 = .ok (.invokevirtual 193, 3) := by decide +kernel
theorem dL_law_1704 : decode cL_law 1704 = .ok (.aload_n 2, 1) := by decide +kernel
theorem dL_law_1705 : decode cL_law 1705 = .ok (.invokevirtual 111, 3) := by decide +kernel
theorem dL_law_1708 : decode cL_law 1708 = .ok (.iload 5, 2) := by decide +kernel
theorem dL_law_1710 : decode cL_law 1710 = .ok (.if_icmp .eq 5, 3) := by decide +kernel
theorem dL_law_1713 : decode cL_law 1713 = .ok (.iconst 0, 1) := by decide +kernel
theorem dL_law_1714 : decode cL_law 1714 = .ok (.ireturn, 1) := by decide +kernel
theorem dL_law_1715 : decode cL_law 1715 = .ok (.goto 234, 3) := by decide +kernel
theorem dL_law_1718 : decode cL_law 1718 = .ok (.aload_n 1, 1) := by decide +kernel
theorem dL_law_1719 : decode cL_law 1719 = .ok (.aload_n 0, 1) := by decide +kernel
theorem dL_law_1720 : decode cL_law 1720 = .ok (.iload 4, 2) := by decide +kernel
theorem dL_law_1722 : decode cL_law 1722 = .ok (.iconst 1, 1) := by decide +kernel
theorem dL_law_1723 : decode cL_law 1723 = .ok (.iadd, 1) := by decide +kernel
theorem dL_law_1724 : decode cL_law 1724 = .ok (.iaload, 1) := by decide +kernel
theorem dL_law_1725 : decode cL_law 1725 = .ok (.aload_n 3, 1) := by decide +kernel
theorem dL_law_1726 : decode cL_law 1726 = .ok (.invokestatic 194, 3) := by decide +kernel
theorem dL_law_1729 : decode cL_law 1729 = .ok (.istore 5, 2) := by decide +kernel
theorem dL_law_1731 : decode cL_law 1731 = .ok (.aload_n 2, 1) := by decide +kernel
theorem dL_law_1732 : decode cL_law 1732 = .ok (.aload_n 0, 1) := by decide +kernel
theorem dL_law_1733 : decode cL_law 1733 = .ok (.iload 4, 2) := by decide +kernel
theorem dL_law_1735 : decode cL_law 1735 = .ok (.iconst 1, 1) := by decide +kernel
theorem dL_law_1736 : decode cL_law 1736 = .ok (.iadd, 1) := by decide +kernel
theorem dL_law_1737 : decode cL_law 1737 = .ok (.iaload, 1) := by decide +kernel
theorem dL_law_1738 : decode cL_law 1738 = .ok (.invokevirtual 196, 3) := by decide +kernel
theorem dL_law_1741 : decode cL_law 1741 = .ok (.istore 6, 2) := by decide +kernel
theorem dL_law_1743 : decode cL_law 1743 = .ok (.aload_n 2, 1) := by decide +kernel
theorem dL_law_1744 : decode cL_law 1744 = .ok (.invokevirtual 111, 3) := by decide +kernel
theorem dL_law_1747 : decode cL_law 1747 = .ok (.iload 5, 2) := by decide +kernel
theorem dL_law_1749 : decode cL_law 1749 = .ok (.if_icmp .eq 5, 3) := by decide +kernel
theorem dL_law_1752 : decode cL_law 1752 = .ok (.iconst 0, 1) := by decide +kernel
theorem dL_law_1753 : decode cL_law 1753 = .ok (.ireturn, 1) := by decide +kernel
theorem dL_law_1754 : decode cL_law 1754 = .ok (.iload 5, 2) := by decide +kernel
theorem dL_law_1756 : decode cL_law 1756 = .ok (.ifCond .ne 22, 3) := by decide +kernel
theorem dL_law_1759 : decode cL_law 1759 = .ok (.aload_n 3, 1) := by decide +kernel
theorem dL_law_1760 : decode cL_law 1760 = .ok (.iconst 0, 1) := by decide +kernel
theorem dL_law_1761 : decode cL_law 1761 = .ok (.laload, 1) := by decide +kernel
theorem dL_law_1762 : decode cL_law 1762 = .ok (.iload 6, 2) := by decide +kernel
theorem dL_law_1764 : decode cL_law 1764 = .ok (.ifCond .eq 7, 3) := by decide +kernel
theorem dL_law_1767 : decode cL_law 1767 = .ok (.lconst 1, 1) := by decide +kernel
theorem dL_law_1768 : decode cL_law 1768 = .ok (.goto 4, 3) := by decide +kernel
theorem dL_law_1771 : decode cL_law 1771 = .ok (.lconst 0, 1) := by decide +kernel
theorem dL_law_1772 : decode cL_law 1772 = .ok (.lcmp, 1) := by decide +kernel
theorem dL_law_1773 : decode cL_law 1773 = .ok (.ifCond .eq 5, 3) := by decide +kernel
theorem dL_law_1776 : decode cL_law 1776 = .ok (.iconst 0, 1) := by decide +kernel
theorem dL_law_1777 : decode cL_law 1777 = .ok (.ireturn, 1) := by decide +kernel
theorem dL_law_1778 : decode cL_law 1778 = .ok (.goto 171, 3) := by decide +kernel
theorem dL_law_1781 : decode cL_law 1781 = .ok (.aload_n 1, 1) := by decide +kernel
theorem dL_law_1782 : decode cL_law 1782 = .ok (.aload_n 0, 1) := by decide +kernel
theorem dL_law_1783 : decode cL_law 1783 = .ok (.iload 4, 2) := by decide +kernel
theorem dL_law_1785 : decode cL_law 1785 = .ok (.iconst 1, 1) := by decide +kernel
theorem dL_law_1786 : decode cL_law 1786 = .ok (.iadd, 1) := by decide +kernel
theorem dL_law_1787 : decode cL_law 1787 = .ok (.iaload, 1) := by decide +kernel
theorem dL_law_1788 : decode cL_law 1788 = .ok (.aload_n 3, 1) := by decide +kernel
theorem dL_law_1789 : decode cL_law 1789 = .ok (.invokestatic 197, 3) := by decide +kernel
theorem dL_law_1792 : decode cL_law 1792 = .ok (.istore 5, 2) := by decide +kernel
theorem dL_law_1794 : decode cL_law 1794 = .ok (.aload_n 2, 1) := by decide +kernel
theorem dL_law_1795 : decode cL_law 1795 = .ok (.aload_n 0, 1) := by decide +kernel
theorem dL_law_1796 : decode cL_law 1796 = .ok (.iload 4, 2) := by decide +kernel
theorem dL_law_1798 : decode cL_law 1798 = .ok (.iconst 1, 1) := by decide +kernel
theorem dL_law_1799 : decode cL_law 1799 = .ok (.iadd, 1) := by decide +kernel
theorem dL_law_1800 : decode cL_law 1800 = .ok (.iaload, 1) := by decide +kernel
theorem dL_law_1801 : decode cL_law 1801 = .ok (.invokevirtual 199, 3) := by decide +kernel
theorem dL_law_1804 : decode cL_law 1804 = .ok (.istore 6, 2) := by decide +kernel
theorem dL_law_1806 : decode cL_law 1806 = .ok (.aload_n 2, 1) := by decide +kernel
theorem dL_law_1807 : decode cL_law 1807 = .ok (.invokevirtual 111, 3) := by decide +kernel
theorem dL_law_1810 : decode cL_law 1810 = .ok (.iload 5, 2) := by decide +kernel
theorem dL_law_1812 : decode cL_law 1812 = .ok (.if_icmp .eq 5, 3) := by decide +kernel
theorem dL_law_1815 : decode cL_law 1815 = .ok (.iconst 0, 1) := by decide +kernel
theorem dL_law_1816 : decode cL_law 1816 = .ok (.ireturn, 1) := by decide +kernel
theorem dL_law_1817 : decode cL_law 1817 = .ok (.iload 5, 2) := by decide +kernel
theorem dL_law_1819 : decode cL_law 1819 = .ok (.ifCond .ne 15, 3) := by decide +kernel
theorem dL_law_1822 : decode cL_law 1822 = .ok (.aload_n 3, 1) := by decide +kernel
theorem dL_law_1823 : decode cL_law 1823 = .ok (.iconst 0, 1) := by decide +kernel
theorem dL_law_1824 : decode cL_law 1824 = .ok (.laload, 1) := by decide +kernel
theorem dL_law_1825 : decode cL_law 1825 = .ok (.iload 6, 2) := by decide +kernel
theorem dL_law_1827 : decode cL_law 1827 = .ok (.i2l, 1) := by decide +kernel
theorem dL_law_1828 : decode cL_law 1828 = .ok (.lcmp, 1) := by decide +kernel
theorem dL_law_1829 : decode cL_law 1829 = .ok (.ifCond .eq 5, 3) := by decide +kernel
theorem dL_law_1832 : decode cL_law 1832 = .ok (.iconst 0, 1) := by decide +kernel
theorem dL_law_1833 : decode cL_law 1833 = .ok (.ireturn, 1) := by decide +kernel
theorem dL_law_1834 : decode cL_law 1834 = .ok (.goto 115, 3) := by decide +kernel
theorem dL_law_1837 : decode cL_law 1837 = .ok (.aload_n 1, 1) := by decide +kernel
theorem dL_law_1838 : decode cL_law 1838 = .ok (.aload_n 0, 1) := by decide +kernel
theorem dL_law_1839 : decode cL_law 1839 = .ok (.iload 4, 2) := by decide +kernel
theorem dL_law_1841 : decode cL_law 1841 = .ok (.iconst 1, 1) := by decide +kernel
theorem dL_law_1842 : decode cL_law 1842 = .ok (.iadd, 1) := by decide +kernel
theorem dL_law_1843 : decode cL_law 1843 = .ok (.iaload, 1) := by decide +kernel
theorem dL_law_1844 : decode cL_law 1844 = .ok (.aload_n 3, 1) := by decide +kernel
theorem dL_law_1845 : decode cL_law 1845 = .ok (.invokestatic 200, 3) := by decide +kernel
theorem dL_law_1848 : decode cL_law 1848 = .ok (.istore 5, 2) := by decide +kernel
theorem dL_law_1850 : decode cL_law 1850 = .ok (.aload_n 2, 1) := by decide +kernel
theorem dL_law_1851 : decode cL_law 1851 = .ok (.aload_n 0, 1) := by decide +kernel
theorem dL_law_1852 : decode cL_law 1852 = .ok (.iload 4, 2) := by decide +kernel
theorem dL_law_1854 : decode cL_law 1854 = .ok (.iconst 1, 1) := by decide +kernel
theorem dL_law_1855 : decode cL_law 1855 = .ok (.iadd, 1) := by decide +kernel
theorem dL_law_1856 : decode cL_law 1856 = .ok (.iaload, 1) := by decide +kernel
theorem dL_law_1857 : decode cL_law 1857 = .ok (.invokevirtual 202, 3) := by decide +kernel
theorem dL_law_1860 : decode cL_law 1860 = .ok (.istore 6, 2) := by decide +kernel
theorem dL_law_1862 : decode cL_law 1862 = .ok (.aload_n 2, 1) := by decide +kernel
theorem dL_law_1863 : decode cL_law 1863 = .ok (.invokevirtual 111, 3) := by decide +kernel
theorem dL_law_1866 : decode cL_law 1866 = .ok (.iload 5, 2) := by decide +kernel
theorem dL_law_1868 : decode cL_law 1868 = .ok (.if_icmp .eq 5, 3) := by decide +kernel
theorem dL_law_1871 : decode cL_law 1871 = .ok (.iconst 0, 1) := by decide +kernel
theorem dL_law_1872 : decode cL_law 1872 = .ok (.ireturn, 1) := by decide +kernel
theorem dL_law_1873 : decode cL_law 1873 = .ok (.iload 5, 2) := by decide +kernel
theorem dL_law_1875 : decode cL_law 1875 = .ok (.ifCond .ne 15, 3) := by decide +kernel
theorem dL_law_1878 : decode cL_law 1878 = .ok (.aload_n 3, 1) := by decide +kernel
theorem dL_law_1879 : decode cL_law 1879 = .ok (.iconst 0, 1) := by decide +kernel
theorem dL_law_1880 : decode cL_law 1880 = .ok (.laload, 1) := by decide +kernel
theorem dL_law_1881 : decode cL_law 1881 = .ok (.iload 6, 2) := by decide +kernel
theorem dL_law_1883 : decode cL_law 1883 = .ok (.i2l, 1) := by decide +kernel
theorem dL_law_1884 : decode cL_law 1884 = .ok (.lcmp, 1) := by decide +kernel
theorem dL_law_1885 : decode cL_law 1885 = .ok (.ifCond .eq 5, 3) := by decide +kernel
theorem dL_law_1888 : decode cL_law 1888 = .ok (.iconst 0, 1) := by decide +kernel
theorem dL_law_1889 : decode cL_law 1889 = .ok (.ireturn, 1) := by decide +kernel
theorem dL_law_1890 : decode cL_law 1890 = .ok (.goto 59, 3) := by decide +kernel
theorem dL_law_1893 : decode cL_law 1893 = .ok (.aload_n 1, 1) := by decide +kernel
theorem dL_law_1894 : decode cL_law 1894 = .ok (.aload_n 0, 1) := by decide +kernel
theorem dL_law_1895 : decode cL_law 1895 = .ok (.iload 4, 2) := by decide +kernel
theorem dL_law_1897 : decode cL_law 1897 = .ok (.iconst 1, 1) := by decide +kernel
theorem dL_law_1898 : decode cL_law 1898 = .ok (.iadd, 1) := by decide +kernel
theorem dL_law_1899 : decode cL_law 1899 = .ok (.iaload, 1) := by decide +kernel
theorem dL_law_1900 : decode cL_law 1900 = .ok (.aload_n 3, 1) := by decide +kernel
theorem dL_law_1901 : decode cL_law 1901 = .ok (.invokestatic 203, 3) := by decide +kernel
theorem dL_law_1904 : decode cL_law 1904 = .ok (.istore 5, 2) := by decide +kernel
theorem dL_law_1906 : decode cL_law 1906 = .ok (.aload_n 2, 1) := by decide +kernel
theorem dL_law_1907 : decode cL_law 1907 = .ok (.aload_n 0, 1) := by decide +kernel
theorem dL_law_1908 : decode cL_law 1908 = .ok (.iload 4, 2) := by decide +kernel
theorem dL_law_1910 : decode cL_law 1910 = .ok (.iconst 1, 1) := by decide +kernel
theorem dL_law_1911 : decode cL_law 1911 = .ok (.iadd, 1) := by decide +kernel
theorem dL_law_1912 : decode cL_law 1912 = .ok (.iaload, 1) := by decide +kernel
theorem dL_law_1913 : decode cL_law 1913 = .ok (.invokevirtual 205, 3) := by decide +kernel
theorem dL_law_1916 : decode cL_law 1916 = .ok (.istore 6, 2) := by decide +kernel
theorem dL_law_1918 : decode cL_law 1918 = .ok (.aload_n 2, 1) := by decide +kernel
theorem dL_law_1919 : decode cL_law 1919 = .ok (.invokevirtual 111, 3) := by decide +kernel
theorem dL_law_1922 : decode cL_law 1922 = .ok (.iload 5, 2) := by decide +kernel
theorem dL_law_1924 : decode cL_law 1924 = .ok (.if_icmp .eq 5, 3) := by decide +kernel
theorem dL_law_1927 : decode cL_law 1927 = .ok (.iconst 0, 1) := by decide +kernel
theorem dL_law_1928 : decode cL_law 1928 = .ok (.ireturn, 1) := by decide +kernel
theorem dL_law_1929 : decode cL_law 1929 = .ok (.iload 5, 2) := by decide +kernel
theorem dL_law_1931 : decode cL_law 1931 = .ok (.ifCond .ne 15, 3) := by decide +kernel
theorem dL_law_1934 : decode cL_law 1934 = .ok (.aload_n 3, 1) := by decide +kernel
theorem dL_law_1935 : decode cL_law 1935 = .ok (.iconst 0, 1) := by decide +kernel
theorem dL_law_1936 : decode cL_law 1936 = .ok (.laload, 1) := by decide +kernel
theorem dL_law_1937 : decode cL_law 1937 = .ok (.iload 6, 2) := by decide +kernel
theorem dL_law_1939 : decode cL_law 1939 = .ok (.i2l, 1) := by decide +kernel
theorem dL_law_1940 : decode cL_law 1940 = .ok (.lcmp, 1) := by decide +kernel
theorem dL_law_1941 : decode cL_law 1941 = .ok (.ifCond .eq 5, 3) := by decide +kernel
theorem dL_law_1944 : decode cL_law 1944 = .ok (.iconst 0, 1) := by decide +kernel
theorem dL_law_1945 : decode cL_law 1945 = .ok (.ireturn, 1) := by decide +kernel
theorem dL_law_1946 : decode cL_law 1946 = .ok (.goto 3, 3) := by decide +kernel
theorem dL_law_1949 : decode cL_law 1949 = .ok (.iinc 4 5, 3) := by decide +kernel
theorem dL_law_1952 : decode cL_law 1952 = .ok (.goto (-1929), 3) := by decide +kernel
theorem dL_law_1955 : decode cL_law 1955 = .ok (.iconst 1, 1) := by decide +kernel
theorem dL_law_1956 : decode cL_law 1956 = .ok (.ireturn, 1) := by decide +kernel
end
section
/-! own rows: a world is told by its heap; contracts that return (th_M), that return or throw (th_MX) -/
abbrev th_Y : Type := va_G × (Nat → ClassId)
abbrev th_tys (Y : th_Y) : List (ClassId × FieldType) := [(Y.2 0, .int), (Y.2 1, .boolean), (Y.2 2, .object "TreeheadGallery$View"), (Y.2 3, .object "TreeheadGallery$Watcher"), (Y.2 4, .long)]
abbrev th_k (Y : th_Y) (U : State) : Prop := va_K Y.1 vwCl (th_tys Y) U
abbrev th_K (Y : th_Y) (U : State) : Prop := th_k Y U ∧ th_N U
theorem th_K.warm {Y : th_Y} {s U : State} (hW : s.WarmedH U.vm) (h : th_K Y s) : th_K Y U := ⟨va_K.moved hW.alike h.1, h.2.warm hW⟩
def th_Same (A : Nat → Prop) (H0 H : Heap) : Prop := H0.size ≤ H.size ∧ ∀ q : Nat, q < H0.size → ¬ A q → H[q]? = H0[q]?
def th_ws (y : MethodName) (cc : ByteArray) (n : Nat) (ret : Option FieldType) : List Cond := Cond.code y cc n ret :: th_G
def th_Q (A : Nat → Prop) (H0 : Heap) (post : Option Value → Heap → Prop) : Array Value → State → Outcome → State → Prop := fun _ _ o t => ∃ v : Option Value, o = .returned v ∧ post v t.heap ∧ th_Same A H0 t.heap
def th_M (l : Launch) (Y : th_Y) (y : MethodName) (cc : ByteArray) (n : Nat) (ret : Option FieldType) (rm : Room) (av : List Value) (H0 : Heap) (A : Nat → Prop) (post : Option Value → Heap → Prop) : Prop :=
  Met l y (th_ws y cc n ret) rm (va_Pc av (fun U => U.heap = H0 ∧ th_K Y U)) (th_Q A H0 post) rm.cells rm.slots A
def th_C (p : Program) (s : State) (m : MethodId) (meth : Method) (c : Code) (args : Array Value) (y : MethodName) (cc : ByteArray) (n : Nat) (ret : Option FieldType) : Prop :=
  p.tables.exec = Jvm.exec ∧ c.code = cc ∧ meth.sig.returnType = ret ∧ c.maxLocals = n ∧ s.vm.findClass y.cls = some m.cls ∧ (∀ w ∈ th_G, w.before args s = true) ∧ meth.locks = false ∧ meth.name = y.name
theorem th_M.intro {l : Launch} {Y : th_Y} {y : MethodName} {cc : ByteArray} {n : Nat} {ret : Option FieldType} {rm : Room} {av : List Value} {H0 : Heap} {A : Nat → Prop} {post : Option Value → Heap → Prop} (hy : plainName y.cls = true) (hn : (lg_sl av).length ≤ n)
    (body : ∀ (p : Program) (e : Env) (s : State) (m : MethodId) (args : Array Value) (below : List Frame) (meth : Method) (c : Code) (ls : Array Slot) (Q : State → Prop), Q = MQ below (th_Q A H0 post) args s rm.cells rm.slots A → th_C p s m meth c args y cc n ret → th_K Y s → lv_has ls n (lv_args 0 av) → va_S A H0 H0 [] →
      W p l e rm s m args below meth c H0 [] 0 0 Q (F0 m 0 ls [])) : th_M l Y y cc n ret rm av H0 A post := by
  refine Met.ofW (cc := cc) (maxL := n) (ret := ret) hy rfl ?_
  intro p e s m args below meth c s₁ B hml hv
  obtain ⟨rfl, hs, hK⟩ := hv
  have hts : ∀ w ∈ th_ws y cc n ret, w.before av.toArray s = true := atoms_spec (ws := th_ws y cc n ret) B.pre
  have h := body p e s m av.toArray below meth c _ _ rfl ⟨B.exec, B.bytes, B.returns, hml, findClass_of_methodNamed B.named, fun w hw => hts w (List.mem_cons_of_mem _ hw), B.notSynchronized, (name_of_methodNamed B.named B.method).1⟩ hK (lv_entry av hn) va_S.rf
  rw [lg_entry_eq, hs]
  exact h
def th_ok (y : MethodName) (cc : ByteArray) (n : Nat) (ret : Option FieldType) (k : Nat) : Prop :=
  Cond.code y cc n ret ∈ th_G ∧ Cond.initialized y.cls ∈ th_G ∧ (y.cls ≠ "java/lang/invoke/MethodHandle" ∧ y.cls ≠ "java/lang/invoke/VarHandle" ∧ (parseMethodDescriptor y.desc).map (fun d => d.parameters.length) = some k)
def th_okV (y : MethodName) (cc : ByteArray) (n : Nat) (ret : Option FieldType) (k : Nat) : Prop := th_ok y cc n ret k ∧ Cond.instanceMethod y ∈ th_G ∧ Cond.selects y.cls y y ∈ th_G
def th_okS (y : MethodName) (cc : ByteArray) (n : Nat) (ret : Option FieldType) (k : Nat) : Prop := th_ok y cc n ret k ∧ Cond.static y ∈ th_G
def th_okI (y : MethodName) (cc : ByteArray) (n : Nat) (k : Nat) : Prop := th_ok y cc n none k ∧ Cond.instanceMethod y ∈ th_G ∧ y.name = "<init>"
theorem th_gin {y : MethodName} {cc : ByteArray} {n : Nat} {ret : Option FieldType} (h : Cond.code y cc n ret ∈ th_G) : GoodIn th_G (th_ws y cc n ret) := fun w hw => by
  have hm : w ∈ th_G := (List.mem_cons.mp hw).elim (fun e => by rw [e]; exact h) id
  exact ⟨hm, good_of_word (th_good w hm)⟩
theorem th_bl {av : List Value} {H0 : Heap} {Y : th_Y} : FrameBlind (va_Pc av (fun U => U.heap = H0 ∧ th_K Y U)) := fun a U g mk q => ⟨q.1, q.2.1, th_K.warm (s := U) (U := U.calling g mk a) (State.WarmedH.refl U) q.2.2⟩
section
variable {p : Program} {l : Launch} {e : Env} {R : Room} {s : State} {m : MethodId} {args : Array Value} {below : List Frame} {meth : Method} {c : Code} {H : Heap} {locs : List Loc} {cells slots : Nat} {Q : State → Prop}
variable {cc : ByteArray} {pc : Nat} {ls : Array Slot} {rest st0 : List Value} {A A' : Nat → Prop} {H0 : Heap} {post post' : Option Value → Heap → Prop} {mc ms : Nat}
theorem th_iret {v : Int32} (hexec : p.tables.exec = Jvm.exec) (hb : c.code = cc) (hr : meth.sig.returnType = some .int) (hlk : meth.locks = false) (hQ : Q = MQ below (th_Q A H0 post) args s mc ms A) (hS : va_S A H0 H locs) (hdg : decode cc pc = .ok (.ireturn, 1)) (h1 : cells ≤ mc) (h2 : slots ≤ ms) (hp : post (some (.int v)) H) : W p l e R s m args below meth c H locs cells slots Q (F0 m pc ls [.int v]) := by
  subst hQ
  exact W.widen h1 h2 (W.iret hexec hb hr (fun t ht _ => ⟨_, rfl, by rw [ht]; exact hp, by rw [ht]; exact ⟨hS.1, hS.2.1⟩⟩) hS.2.2 hdg hlk)
theorem th_zret {v : Int32} (hexec : p.tables.exec = Jvm.exec) (hb : c.code = cc) (hr : meth.sig.returnType = some .boolean) (hlk : meth.locks = false) (hQ : Q = MQ below (th_Q A H0 post) args s mc ms A) (hS : va_S A H0 H locs) (hdg : decode cc pc = .ok (.ireturn, 1)) (h1 : cells ≤ mc) (h2 : slots ≤ ms) (hv : v = 0 ∨ v = 1) (hp : post (some (.int v)) H) : W p l e R s m args below meth c H locs cells slots Q (F0 m pc ls [.int v]) := by
  subst hQ
  exact W.widen h1 h2 (W.zret hexec hb hr (by rcases hv with rfl | rfl <;> rfl) (fun t ht _ => ⟨_, rfl, by rw [ht]; exact hp, by rw [ht]; exact ⟨hS.1, hS.2.1⟩⟩) hS.2.2 hdg hlk)
theorem th_vret (hexec : p.tables.exec = Jvm.exec) (hb : c.code = cc) (hr : meth.sig.returnType = none) (hlk : meth.locks = false) (hQ : Q = MQ below (th_Q A H0 post) args s mc ms A) (hS : va_S A H0 H locs) (hdg : decode cc pc = .ok (.return_, 1)) (h1 : cells ≤ mc) (h2 : slots ≤ ms) (hp : post none H) : W p l e R s m args below meth c H locs cells slots Q (F0 m pc ls []) := by
  subst hQ
  exact W.widen h1 h2 (W.vret hexec hb hr (fun t ht _ => ⟨_, rfl, by rw [ht]; exact hp, by rw [ht]; exact ⟨hS.1, hS.2.1⟩⟩) hS.2.2 hdg hlk)
theorem th_aret {a : Nat} {rn : String} (hexec : p.tables.exec = Jvm.exec) (hb : c.code = cc) (hr : meth.sig.returnType = some (.object rn)) (hlk : meth.locks = false) (hQ : Q = MQ below (th_Q A H0 post) args s mc ms A) (hS : va_S A H0 H locs) (hdg : decode cc pc = .ok (.areturn, 1)) (h1 : cells ≤ mc) (h2 : slots ≤ ms) (hp : post (some (.ref a)) H) : W p l e R s m args below meth c H locs cells slots Q (F0 m pc ls [.ref a]) := by
  subst hQ
  exact W.widen h1 h2 (W.aret hexec hb hr (Or.inl ⟨_, rfl⟩) (Or.inr ⟨_, rfl⟩) (fun t ht _ => ⟨_, rfl, by rw [ht]; exact hp, by rw [ht]; exact ⟨hS.1, hS.2.1⟩⟩) hS.2.2 hdg hlk)
/-- a computed number on top gets another name -/
theorem th_ti {x y : Int32} (h : x = y) (k : W p l e R s m args below meth c H locs cells slots Q (F0 m pc ls (.int y :: rest))) : W p l e R s m args below meth c H locs cells slots Q (F0 m pc ls (.int x :: rest)) := h ▸ k
theorem th_after {a : Array Value} (hr : va_Run p l e R s m args below meth c H locs cells slots mc ms (F0 m pc ls st0) rest (th_Q A' H post' a) A') (hS : va_S A H0 H locs) (hA : ∀ q, A' q → A q)
    (kk : ∀ (v : Option Value) (H1 : Heap) (locs1 : List Loc), post' v H1 → th_Same A' H H1 → va_S A H0 H1 locs1 → W p l e R s m args below meth c H1 locs1 (cells + mc) (slots + ms) Q (F0 m (pc + 3) ls (v.toList ++ rest))) : W p l e R s m args below meth c H locs cells slots Q (F0 m pc ls st0) := by
  intro T hT X
  obtain ⟨v, st₀, t, T', L, h0, X', hL, e1, e2, ⟨v', hv, hp, hsm⟩, st⟩ := hr T hT X
  cases hv
  obtain ⟨t2, a1, b1⟩ := kk v T'.heap (locs ++ L) (by rw [e1]; exact hp) (by rw [e1]; exact hsm) ⟨Nat.le_trans hS.1 (by rw [e1]; exact hsm.1), fun q h1 h2 => by rw [e1, hsm.2 q (Nat.lt_of_lt_of_le h1 hS.1) (fun z => h2 (hA q z))]; exact hS.2.1 q h1 h2, fun q hq => (List.mem_append.mp hq).elim (hS.2.2 q) (fun h => hA _ (hL q h))⟩ T' rfl X'
  exact ⟨t2, st t2 a1, b1⟩
variable {Y : th_Y} {y : MethodName} {cy : ByteArray} {ny k nL idx : Nat} {ret : Option FieldType} {rm : Room} {av : List Value} {own : String} {lv : List (Nat × Value)} {b : Addr}
theorem th_callS (hexec : p.tables.exec = Jvm.exec) (hb : c.code = cc) (hml : c.maxLocals = nL) (hown : s.vm.findClass own = some m.cls) (hts : ∀ w ∈ th_G, w.before args s = true) (hK : th_K Y s) (hl : lv_has ls nL lv) (hS : va_S A H0 H locs)
    (hC : th_M l Y y cy ny ret rm av H A' post') (ok : th_okS y cy ny ret k) (w1 : Cond.methodLink own idx y ∈ th_G) (hdg : decode cc pc = .ok (.invokestatic idx, 3)) (hst : st0 = av.reverse ++ rest) (hn : av.length = k) (hro : (rest.map fun v => v.category).sum ≤ 8) (hR : rm.frames + 1 ≤ R.frames ∧ 8 + (ny + 11) + rm.locals ≤ R.locals) (hf : cells + rm.cells ≤ R.cells ∧ slots + rm.slots ≤ R.slots) (hA : ∀ q, A' q → A q)
    (kk : ∀ (v : Option Value) (H1 : Heap) (locs1 : List Loc), post' v H1 → th_Same A' H H1 → va_S A H0 H1 locs1 → W p l e R s m args below meth c H1 locs1 (cells + rm.cells) (slots + rm.slots) Q (F0 m (pc + 3) ls (v.toList ++ rest))) : W p l e R s m args below meth c H locs cells slots Q (F0 m pc ls st0) :=
  th_after (va_runS (As := av) (rest := rest) (nL := nL) ⟨hexec, hb, hml, hown, hts⟩ hC ⟨callB_of k hts (th_gin ok.1.1) rfl rfl rfl (hts _ ok.1.2.1) (hts _ w1) ok.1.2.2 hR, hts _ ok.2⟩ ⟨th_bl, fun U hU hW => ⟨rfl, hU, th_K.warm hW hK⟩⟩ rfl hn hl.1 hst (lv_room hro) hdg hf) hS hA kk
theorem th_callV {ci : Nat} {fs : List Value} {T : u_T} {N : Nat} (hexec : p.tables.exec = Jvm.exec) (hb : c.code = cc) (hml : c.maxLocals = nL) (hown : s.vm.findClass own = some m.cls) (hts : ∀ w ∈ th_G, w.before args s = true) (hK : th_K Y s) (hl : lv_has ls nL lv) (hS : va_S A H0 H locs)
    (hB : va_at Y.1 vwCl (b, .inr (ci, fs)) H) (hci : vwCl[ci]? = some (y.cls, T, N))
    (hC : th_M l Y y cy ny ret rm (.ref b :: av) H A' post') (ok : th_okV y cy ny ret k) (w1 : Cond.methodLink own idx y ∈ th_G) (hdg : decode cc pc = .ok (.invokevirtual idx, 3)) (hst : st0 = av.reverse ++ .ref b :: rest) (hn : av.length = k) (hro : (rest.map fun v => v.category).sum ≤ 8) (hR : rm.frames + 1 ≤ R.frames ∧ 8 + (ny + 11) + rm.locals ≤ R.locals) (hf : cells + rm.cells ≤ R.cells ∧ slots + rm.slots ≤ R.slots) (hA : ∀ q, A' q → A q)
    (kk : ∀ (v : Option Value) (H1 : Heap) (locs1 : List Loc), post' v H1 → th_Same A' H H1 → va_S A H0 H1 locs1 → W p l e R s m args below meth c H1 locs1 (cells + rm.cells) (slots + rm.slots) Q (F0 m (pc + 3) ls (v.toList ++ rest))) : W p l e R s m args below meth c H locs cells slots Q (F0 m pc ls st0) := by
  refine th_after (va_runV (C := y.cls) (As := av) (rest := rest) (nL := nL) ⟨hexec, hb, hml, hown, hts⟩ hC ⟨callB_of k hts (th_gin ok.1.1) rfl rfl rfl (hts _ ok.1.2.1) (hts _ w1) ok.1.2.2 hR, hts _ ok.2.1, hts _ ok.2.2⟩ ⟨th_bl, ?_, fun U hU hW => ⟨rfl, hU, th_K.warm hW hK⟩⟩ rfl hn hl.1 hst (lv_room hro) hdg hf) hS hA kk
  obtain ⟨r, h1, cell, q1, q2, q3, -⟩ := hB
  have hr : r = (y.cls, T, N) := Option.some.inj (h1.symm.trans hci)
  subst hr
  exact ⟨cell, q1, by rw [q3]; rfl, by rw [q2]; exact (hK.1.1 ci _ hci).2.1⟩
theorem th_callI (hexec : p.tables.exec = Jvm.exec) (hb : c.code = cc) (hml : c.maxLocals = nL) (hown : s.vm.findClass own = some m.cls) (hts : ∀ w ∈ th_G, w.before args s = true) (hK : th_K Y s) (hl : lv_has ls nL lv) (hS : va_S A H0 H locs)
    (hC : th_M l Y y cy ny none rm (.ref b :: av) H A' post') (ok : th_okI y cy ny k) (w1 : Cond.methodLink own idx y ∈ th_G) (hdg : decode cc pc = .ok (.invokespecial idx, 3)) (hst : st0 = av.reverse ++ .ref b :: rest) (hn : av.length = k) (hro : (rest.map fun v => v.category).sum ≤ 8) (hR : rm.frames + 1 ≤ R.frames ∧ 8 + (ny + 11) + rm.locals ≤ R.locals) (hf : cells + rm.cells ≤ R.cells ∧ slots + rm.slots ≤ R.slots) (hA : ∀ q, A' q → A q)
    (kk : ∀ (v : Option Value) (H1 : Heap) (locs1 : List Loc), post' v H1 → th_Same A' H H1 → va_S A H0 H1 locs1 → W p l e R s m args below meth c H1 locs1 (cells + rm.cells) (slots + rm.slots) Q (F0 m (pc + 3) ls (v.toList ++ rest))) : W p l e R s m args below meth c H locs cells slots Q (F0 m pc ls st0) :=
  th_after (va_runI (As := av) (rest := rest) (nL := nL) ⟨hexec, hb, hml, hown, hts⟩ hC ⟨callB_of k hts (th_gin ok.1.1) rfl rfl rfl (hts _ ok.1.2.1) (hts _ w1) ok.1.2.2 hR, ok.2.2, hts _ ok.2.1⟩ ⟨th_bl, fun U hU hW => ⟨rfl, hU, th_K.warm hW hK⟩⟩ rfl hn hl.1 hst (lv_room hro) hdg hf) hS hA kk
theorem th_callSN {host : String} (hexec : p.tables.exec = Jvm.exec) (hb : c.code = cc) (hml : c.maxLocals = nL) (hown : s.vm.findClass own = some m.cls) (hts : ∀ w ∈ th_G, w.before args s = true) (hK : th_K Y s) (hl : lv_has ls nL lv) (hS : va_S A H0 H locs)
    (hC : th_M l Y y cy ny ret rm av H A' post') (ok : th_okS y cy ny ret k) (w1 : va_Nw (.methodLinkNest own idx y host) s) (hdg : decode cc pc = .ok (.invokestatic idx, 3)) (hst : st0 = av.reverse ++ rest) (hn : av.length = k) (hro : (rest.map fun v => v.category).sum ≤ 8) (hR : rm.frames + 1 ≤ R.frames ∧ 8 + (ny + 11) + rm.locals ≤ R.locals) (hf : cells + rm.cells ≤ R.cells ∧ slots + rm.slots ≤ R.slots) (hA : ∀ q, A' q → A q)
    (kk : ∀ (v : Option Value) (H1 : Heap) (locs1 : List Loc), post' v H1 → th_Same A' H H1 → va_S A H0 H1 locs1 → W p l e R s m args below meth c H1 locs1 (cells + rm.cells) (slots + rm.slots) Q (F0 m (pc + 3) ls (v.toList ++ rest))) : W p l e R s m args below meth c H locs cells slots Q (F0 m pc ls st0) :=
  th_after (va_runSN (As := av) (rest := rest) (nL := nL) ⟨hexec, hb, hml, hown, hts⟩ hC ⟨va_cnB k hts (th_gin ok.1.1) rfl rfl rfl w1 (hts _ ok.1.2.1) ok.1.2.2 hR, hts _ ok.2, trivial⟩ ⟨th_bl, fun U hU hW => ⟨rfl, hU, th_K.warm hW hK⟩⟩ rfl hn hl.1 hst (lv_room hro) hdg hf) hS hA kk
theorem th_callIN {host : String} (hexec : p.tables.exec = Jvm.exec) (hb : c.code = cc) (hml : c.maxLocals = nL) (hown : s.vm.findClass own = some m.cls) (hts : ∀ w ∈ th_G, w.before args s = true) (hK : th_K Y s) (hl : lv_has ls nL lv) (hS : va_S A H0 H locs)
    (hC : th_M l Y y cy ny none rm (.ref b :: av) H A' post') (ok : th_okI y cy ny k) (w1 : va_Nw (.methodLinkNest own idx y host) s) (hdg : decode cc pc = .ok (.invokespecial idx, 3)) (hst : st0 = av.reverse ++ .ref b :: rest) (hn : av.length = k) (hro : (rest.map fun v => v.category).sum ≤ 8) (hR : rm.frames + 1 ≤ R.frames ∧ 8 + (ny + 11) + rm.locals ≤ R.locals) (hf : cells + rm.cells ≤ R.cells ∧ slots + rm.slots ≤ R.slots) (hA : ∀ q, A' q → A q)
    (kk : ∀ (v : Option Value) (H1 : Heap) (locs1 : List Loc), post' v H1 → th_Same A' H H1 → va_S A H0 H1 locs1 → W p l e R s m args below meth c H1 locs1 (cells + rm.cells) (slots + rm.slots) Q (F0 m (pc + 3) ls (v.toList ++ rest))) : W p l e R s m args below meth c H locs cells slots Q (F0 m pc ls st0) :=
  th_after (va_runIN (As := av) (rest := rest) (nL := nL) ⟨hexec, hb, hml, hown, hts⟩ hC ⟨va_cnB k hts (th_gin ok.1.1) rfl rfl rfl w1 (hts _ ok.1.2.1) ok.1.2.2 hR, ok.2.2, hts _ ok.2.1⟩ ⟨th_bl, fun U hU hW => ⟨rfl, hU, th_K.warm hW hK⟩⟩ rfl hn hl.1 hst (lv_room hro) hdg hf) hS hA kk
end
/-- a world's cells: apart, and only they may change -/
theorem th_mem {B : Nat → Prop} {ws : va_W} (h : va_D B ws) : va_D (fun q => q ∈ ws.map (fun z => z.1)) ws := ⟨h.1, fun k q hk => List.mem_map.mpr ⟨q, List.mem_of_getElem? hk, rfl⟩⟩
abbrev th_no : Nat → Prop := fun _ => False
section
variable {p : Program} {l : Launch} {e : Env} {R : Room} {s : State} {m : MethodId} {args : Array Value} {below : List Frame} {meth : Method} {c : Code} {H : Heap} {locs : List Loc} {cells slots : Nat} {Q : State → Prop}
variable {cc : ByteArray} {pc : Nat} {ls : Array Slot} {rest : List Value} {off : Int} {tgt : Nat} {a b : Nat}
theorem th_ilt (hexec : p.tables.exec = Jvm.exec) (hb : c.code = cc) (hdg : decode cc pc = .ok (.if_icmp .lt off, 3)) (ht : (pc : Int) + off = (tgt : Int)) (h1 : a < 2147483648) (h2 : b < 2147483648)
    (kt : a < b → W p l e R s m args below meth c H locs cells slots Q (F0 m tgt ls rest)) (kf : b ≤ a → W p l e R s m args below meth c H locs cells slots Q (F0 m (pc + 3) ls rest)) : W p l e R s m args below meth c H locs cells slots Q (F0 m pc ls (.int (nI b) :: .int (nI a) :: rest)) :=
  lv_icmp_lt hexec hb hdg ht (fun c => kt ((nI_ltI h1 h2).mp c)) (fun c => kf (Nat.le_of_not_lt fun h => c ((nI_ltI h1 h2).mpr h)))
theorem th_ige (hexec : p.tables.exec = Jvm.exec) (hb : c.code = cc) (hdg : decode cc pc = .ok (.if_icmp .ge off, 3)) (ht : (pc : Int) + off = (tgt : Int)) (h1 : a < 2147483648) (h2 : b < 2147483648)
    (kt : b ≤ a → W p l e R s m args below meth c H locs cells slots Q (F0 m tgt ls rest)) (kf : a < b → W p l e R s m args below meth c H locs cells slots Q (F0 m (pc + 3) ls rest)) : W p l e R s m args below meth c H locs cells slots Q (F0 m pc ls (.int (nI b) :: .int (nI a) :: rest)) :=
  lv_icmp_ge hexec hb hdg ht (fun c => kt ((nI_leI h2 h1).mp c)) (fun c => kf (Nat.lt_of_not_le fun h => c ((nI_leI h2 h1).mpr h)))
theorem th_igt (hexec : p.tables.exec = Jvm.exec) (hb : c.code = cc) (hdg : decode cc pc = .ok (.if_icmp .gt off, 3)) (ht : (pc : Int) + off = (tgt : Int)) (h1 : a < 2147483648) (h2 : b < 2147483648)
    (kt : b < a → W p l e R s m args below meth c H locs cells slots Q (F0 m tgt ls rest)) (kf : a ≤ b → W p l e R s m args below meth c H locs cells slots Q (F0 m (pc + 3) ls rest)) : W p l e R s m args below meth c H locs cells slots Q (F0 m pc ls (.int (nI b) :: .int (nI a) :: rest)) :=
  lv_icmp_gt hexec hb hdg ht (fun c => kt ((nI_ltI h2 h1).mp c)) (fun c => kf (Nat.le_of_not_lt fun h => c ((nI_ltI h2 h1).mpr h)))
theorem th_ile (hexec : p.tables.exec = Jvm.exec) (hb : c.code = cc) (hdg : decode cc pc = .ok (.if_icmp .le off, 3)) (ht : (pc : Int) + off = (tgt : Int)) (h1 : a < 2147483648) (h2 : b < 2147483648)
    (kt : a ≤ b → W p l e R s m args below meth c H locs cells slots Q (F0 m tgt ls rest)) (kf : b < a → W p l e R s m args below meth c H locs cells slots Q (F0 m (pc + 3) ls rest)) : W p l e R s m args below meth c H locs cells slots Q (F0 m pc ls (.int (nI b) :: .int (nI a) :: rest)) :=
  lv_icmp_le hexec hb hdg ht (fun c => kt ((nI_leI h1 h2).mp c)) (fun c => kf (Nat.lt_of_not_le fun h => c ((nI_leI h1 h2).mpr h)))
theorem th_ieq (hexec : p.tables.exec = Jvm.exec) (hb : c.code = cc) (hdg : decode cc pc = .ok (.if_icmp .eq off, 3)) (ht : (pc : Int) + off = (tgt : Int)) (h1 : a < 2147483648) (h2 : b < 2147483648)
    (kt : a = b → W p l e R s m args below meth c H locs cells slots Q (F0 m tgt ls rest)) (kf : a ≠ b → W p l e R s m args below meth c H locs cells slots Q (F0 m (pc + 3) ls rest)) : W p l e R s m args below meth c H locs cells slots Q (F0 m pc ls (.int (nI b) :: .int (nI a) :: rest)) :=
  lv_icmp_eq hexec hb hdg ht (fun c => kt ((nI_eq h1 h2).mp c)) (fun c => kf (fun h => c ((nI_eq h1 h2).mpr h)))
theorem th_ine (hexec : p.tables.exec = Jvm.exec) (hb : c.code = cc) (hdg : decode cc pc = .ok (.if_icmp .ne off, 3)) (ht : (pc : Int) + off = (tgt : Int)) (h1 : a < 2147483648) (h2 : b < 2147483648)
    (kt : a ≠ b → W p l e R s m args below meth c H locs cells slots Q (F0 m tgt ls rest)) (kf : a = b → W p l e R s m args below meth c H locs cells slots Q (F0 m (pc + 3) ls rest)) : W p l e R s m args below meth c H locs cells slots Q (F0 m pc ls (.int (nI b) :: .int (nI a) :: rest)) :=
  lv_icmp_ne hexec hb hdg ht (fun c => kt (fun h => c ((nI_eq h1 h2).mpr h))) (fun c => kf ((nI_eq h1 h2).mp c))
theorem th_zeq (hexec : p.tables.exec = Jvm.exec) (hb : c.code = cc) (hdg : decode cc pc = .ok (.ifCond .eq off, 3)) (ht : (pc : Int) + off = (tgt : Int)) (h1 : a < 2147483648)
    (kt : a = 0 → W p l e R s m args below meth c H locs cells slots Q (F0 m tgt ls rest)) (kf : a ≠ 0 → W p l e R s m args below meth c H locs cells slots Q (F0 m (pc + 3) ls rest)) : W p l e R s m args below meth c H locs cells slots Q (F0 m pc ls (.int (nI a) :: rest)) :=
  lv_if_eq hexec hb hdg ht (fun c => kt ((nI_eq h1 (by decide)).mp c)) (fun c => kf (fun h => c ((nI_eq h1 (b := 0) (by decide)).mpr h)))
theorem th_zne (hexec : p.tables.exec = Jvm.exec) (hb : c.code = cc) (hdg : decode cc pc = .ok (.ifCond .ne off, 3)) (ht : (pc : Int) + off = (tgt : Int)) (h1 : a < 2147483648)
    (kt : a ≠ 0 → W p l e R s m args below meth c H locs cells slots Q (F0 m tgt ls rest)) (kf : a = 0 → W p l e R s m args below meth c H locs cells slots Q (F0 m (pc + 3) ls rest)) : W p l e R s m args below meth c H locs cells slots Q (F0 m pc ls (.int (nI a) :: rest)) :=
  lv_if_ne hexec hb hdg ht (fun c => kt (fun h => c ((nI_eq h1 (b := 0) (by decide)).mpr h))) (fun c => kf ((nI_eq h1 (by decide)).mp c))
/-- a number that isn't negative is never below 0 -/
theorem th_zlt (hexec : p.tables.exec = Jvm.exec) (hb : c.code = cc) (hdg : decode cc pc = .ok (.ifCond .lt off, 3)) (ht : (pc : Int) + off = (tgt : Int)) (h1 : a < 2147483648)
    (kf : W p l e R s m args below meth c H locs cells slots Q (F0 m (pc + 3) ls rest)) : W p l e R s m args below meth c H locs cells slots Q (F0 m pc ls (.int (nI a) :: rest)) :=
  lv_if_lt hexec hb hdg ht (fun c => absurd c (nI_pos h1)) (fun _ => kf)
theorem th_zle (hexec : p.tables.exec = Jvm.exec) (hb : c.code = cc) (hdg : decode cc pc = .ok (.ifCond .le off, 3)) (ht : (pc : Int) + off = (tgt : Int)) (h1 : a < 2147483648)
    (kt : a = 0 → W p l e R s m args below meth c H locs cells slots Q (F0 m tgt ls rest)) (kf : 0 < a → W p l e R s m args below meth c H locs cells slots Q (F0 m (pc + 3) ls rest)) : W p l e R s m args below meth c H locs cells slots Q (F0 m pc ls (.int (nI a) :: rest)) :=
  lv_if_le hexec hb hdg ht (fun c => kt (Nat.le_zero.mp ((nI_leI h1 (b := 0) (by decide)).mp c))) (fun c => kf (Nat.pos_of_ne_zero fun h => c ((nI_leI h1 (b := 0) (by decide)).mpr (Nat.le_of_eq h))))
theorem th_zge (hexec : p.tables.exec = Jvm.exec) (hb : c.code = cc) (hdg : decode cc pc = .ok (.ifCond .ge off, 3)) (ht : (pc : Int) + off = (tgt : Int)) (h1 : a < 2147483648)
    (kt : W p l e R s m args below meth c H locs cells slots Q (F0 m tgt ls rest)) : W p l e R s m args below meth c H locs cells slots Q (F0 m pc ls (.int (nI a) :: rest)) :=
  lv_if_ge hexec hb hdg ht (fun _ => kt) (fun c => absurd (nI_pos' h1) c)
theorem th_ione : (-1 : Int32) = -1 := rfl
variable {Y : th_Y} {ws : va_W} {A : Nat → Prop} {H0 : Heap} {n j q0 : Nat} {f : Nat → Int32}
theorem th_iald (hexec : p.tables.exec = Jvm.exec) (hb : c.code = cc) (hK : th_k Y s) (hP : va_P Y.1 vwCl ws H) (q0 : Nat) (ha : ws[q0]? = some (a, .inl (Y.2 0, n, .inl f))) (hj : j < n) (hn : n < 2147483648) (hdg : decode cc pc = .ok (.iaload, 1))
    (kk : W p l e R s m args below meth c H locs cells slots Q (F0 m (pc + 1) ls (.int (f j) :: rest))) : W p l e R s m args below meth c H locs cells slots Q (F0 m pc ls (.int (nI j) :: .ref a :: rest)) :=
  va_iald hexec hb hK hP q0 0 ha rfl (vp_in_nI hj hn) hdg (by rw [nI_clamp (by omega)]; exact kk)
theorem th_zald (hexec : p.tables.exec = Jvm.exec) (hb : c.code = cc) (hK : th_k Y s) (hP : va_P Y.1 vwCl ws H) (q0 : Nat) (ha : ws[q0]? = some (a, .inl (Y.2 1, n, .inl f))) (hj : j < n) (hn : n < 2147483648) (hdg : decode cc pc = .ok (.baload, 1))
    (kk : W p l e R s m args below meth c H locs cells slots Q (F0 m (pc + 1) ls (.int (f j) :: rest))) : W p l e R s m args below meth c H locs cells slots Q (F0 m pc ls (.int (nI j) :: .ref a :: rest)) :=
  va_zald hexec hb hK hP q0 1 ha rfl (vp_in_nI hj hn) hdg (by rw [nI_clamp (by omega)]; exact kk)
theorem th_iast {x : Int32} (hexec : p.tables.exec = Jvm.exec) (hb : c.code = cc) (hK : th_k Y s) (hP : va_P Y.1 vwCl ws H) (hD : va_D A ws) (hS : va_S A H0 H locs) (q0 : Nat) (ha : ws[q0]? = some (a, .inl (Y.2 0, n, .inl f))) (hj : j < n) (hn : n < 2147483648) (hdg : decode cc pc = .ok (.iastore, 1))
    (kk : ∀ (H : Heap) (locs : List Loc), va_P Y.1 vwCl (ws.set q0 (a, .inl (Y.2 0, n, .inl (upd f j x)))) H → va_D A (ws.set q0 (a, .inl (Y.2 0, n, .inl (upd f j x)))) → va_S A H0 H locs → W p l e R s m args below meth c H locs cells slots Q (F0 m (pc + 1) ls rest)) : W p l e R s m args below meth c H locs cells slots Q (F0 m pc ls (.int x :: .int (nI j) :: .ref a :: rest)) :=
  va_iast hexec hb hK hP hD hS q0 0 ha rfl (vp_in_nI hj hn) hdg (by rw [nI_clamp (by omega)]; exact kk)
theorem th_zast {x : Int32} (hexec : p.tables.exec = Jvm.exec) (hb : c.code = cc) (hK : th_k Y s) (hP : va_P Y.1 vwCl ws H) (hD : va_D A ws) (hS : va_S A H0 H locs) (q0 : Nat) (ha : ws[q0]? = some (a, .inl (Y.2 1, n, .inl f))) (hj : j < n) (hn : n < 2147483648) (hx : x = 0 ∨ x = 1) (hdg : decode cc pc = .ok (.bastore, 1))
    (kk : ∀ (H : Heap) (locs : List Loc), va_P Y.1 vwCl (ws.set q0 (a, .inl (Y.2 1, n, .inl (upd f j x)))) H → va_D A (ws.set q0 (a, .inl (Y.2 1, n, .inl (upd f j x)))) → va_S A H0 H locs → W p l e R s m args below meth c H locs cells slots Q (F0 m (pc + 1) ls rest)) : W p l e R s m args below meth c H locs cells slots Q (F0 m pc ls (.int x :: .int (nI j) :: .ref a :: rest)) :=
  va_zast hexec hb hK hP hD hS q0 1 ha rfl (vp_in_nI hj hn) hdg (by rw [nI_clamp (by omega), show vp_nar .boolean x = x from by rcases hx with rfl | rfl <;> rfl]; exact kk)
end
abbrev th_rm (k mc ms : Nat) : Room := { frames := 20 * (k + 1), cells := mc, slots := ms, locals := 400 * (k + 1) }
/-- a contract that changes no cell -/
abbrev th_P (l : Launch) (Y : th_Y) (y : MethodName) (cc : ByteArray) (n : Nat) (ret : Option FieldType) (rm : Room) (av : List Value) (H0 : Heap) (post : Option Value → Prop) : Prop := th_M l Y y cc n ret rm av H0 th_no (fun v H => post v ∧ H = H0)
section
variable {p : Program} {l : Launch} {e : Env} {R : Room} {s : State} {m : MethodId} {args : Array Value} {below : List Frame} {meth : Method} {c : Code} {H : Heap} {cells slots : Nat} {Q : State → Prop}
variable {pc : Nat} {ls : Array Slot} {rest : List Value} {A A' : Nat → Prop} {H0 : Heap}
theorem th_kpi {r0 : Int32} (kk : ∀ locs : List Loc, va_S A H0 H locs → W p l e R s m args below meth c H locs cells slots Q (F0 m pc ls (.int r0 :: rest))) :
    ∀ (v : Option Value) (H1 : Heap) (locs1 : List Loc), (v = some (.int r0) ∧ H1 = H) → th_Same th_no H H1 → va_S A H0 H1 locs1 → W p l e R s m args below meth c H1 locs1 cells slots Q (F0 m pc ls (v.toList ++ rest)) := by
  rintro v H1 locs1 ⟨rfl, rfl⟩ - h
  exact kk locs1 h
theorem th_kpe {P : Int32 → Prop} (kk : ∀ (r : Int32) (locs : List Loc), P r → va_S A H0 H locs → W p l e R s m args below meth c H locs cells slots Q (F0 m pc ls (.int r :: rest))) :
    ∀ (v : Option Value) (H1 : Heap) (locs1 : List Loc), ((∃ r : Int32, v = some (.int r) ∧ P r) ∧ H1 = H) → th_Same th_no H H1 → va_S A H0 H1 locs1 → W p l e R s m args below meth c H1 locs1 cells slots Q (F0 m pc ls (v.toList ++ rest)) := by
  rintro v H1 locs1 ⟨⟨r, rfl, hp⟩, rfl⟩ - h
  exact kk r locs1 hp h
theorem th_kpr {P : Nat → Prop} (kk : ∀ (r : Nat) (locs : List Loc), P r → va_S A H0 H locs → W p l e R s m args below meth c H locs cells slots Q (F0 m pc ls (.ref r :: rest))) :
    ∀ (v : Option Value) (H1 : Heap) (locs1 : List Loc), ((∃ r : Nat, v = some (.ref r) ∧ P r) ∧ H1 = H) → th_Same th_no H H1 → va_S A H0 H1 locs1 → W p l e R s m args below meth c H1 locs1 cells slots Q (F0 m pc ls (v.toList ++ rest)) := by
  rintro v H1 locs1 ⟨⟨r, rfl, hp⟩, rfl⟩ - h
  exact kk r locs1 hp h
theorem th_kpv {P : Prop} (kk : ∀ (locs : List Loc), P → va_S A H0 H locs → W p l e R s m args below meth c H locs cells slots Q (F0 m pc ls rest)) :
    ∀ (v : Option Value) (H1 : Heap) (locs1 : List Loc), ((v = none ∧ P) ∧ H1 = H) → th_Same th_no H H1 → va_S A H0 H1 locs1 → W p l e R s m args below meth c H1 locs1 cells slots Q (F0 m pc ls (v.toList ++ rest)) := by
  rintro v H1 locs1 ⟨⟨rfl, hp⟩, rfl⟩ - h
  exact kk locs1 hp h
theorem th_kv {P : Heap → Prop} (kk : ∀ (H1 : Heap) (locs1 : List Loc), P H1 → th_Same A' H H1 → va_S A H0 H1 locs1 → W p l e R s m args below meth c H1 locs1 cells slots Q (F0 m pc ls rest)) :
    ∀ (v : Option Value) (H1 : Heap) (locs1 : List Loc), (v = none ∧ P H1) → th_Same A' H H1 → va_S A H0 H1 locs1 → W p l e R s m args below meth c H1 locs1 cells slots Q (F0 m pc ls (v.toList ++ rest)) := by
  rintro v H1 locs1 ⟨rfl, hp⟩ hs h
  exact kk H1 locs1 hp hs h
theorem th_ki {P : Int32 → Heap → Prop} (kk : ∀ (r : Int32) (H1 : Heap) (locs1 : List Loc), P r H1 → th_Same A' H H1 → va_S A H0 H1 locs1 → W p l e R s m args below meth c H1 locs1 cells slots Q (F0 m pc ls (.int r :: rest))) :
    ∀ (v : Option Value) (H1 : Heap) (locs1 : List Loc), (∃ r : Int32, v = some (.int r) ∧ P r H1) → th_Same A' H H1 → va_S A H0 H1 locs1 → W p l e R s m args below meth c H1 locs1 cells slots Q (F0 m pc ls (v.toList ++ rest)) := by
  rintro v H1 locs1 ⟨r, rfl, hp⟩ hs h
  exact kk r H1 locs1 hp hs h
end
/-- a world behind a call: the callee's cells as they are now, the others as they were -/
theorem th_join {A0 : Nat → Prop} {D : va_G} {cl : List vw_C} {ws wr w1 : va_W} {H H1 : Heap} {L : List Nat} (hP : va_P D cl ws H) (hD : va_D A0 ws) (isR isC : List Nat) (hR : isR.map (fun i => ws[i]?) = wr.map some) (hC : isC.map (fun i => (ws[i]?).map (fun z => z.1)) = L.map some) (hdis : ∀ i ∈ isR, i ∉ isC) (hs : th_Same (fun q => q ∈ L) H H1) (hP1 : va_P D cl w1 H1) : va_P D cl (wr ++ w1) H1 := by
  refine va_P.app (fun k q hq => ?_) hP1
  have h1 : (isR.map (fun i => ws[i]?))[k]? = some (some q) := by rw [hR, List.getElem?_map, hq]; rfl
  rw [List.getElem?_map] at h1
  cases hi : isR[k]? with
  | none => rw [hi] at h1; cases h1
  | some i =>
    rw [hi] at h1
    have h2 : ws[i]? = some q := Option.some.inj h1
    refine (hP i q h2).kept (hs.2 q.1 (hP i q h2).lt (fun hm => ?_))
    obtain ⟨j, hj⟩ := List.getElem?_of_mem hm
    have h3 : (isC.map (fun i => (ws[i]?).map (fun z => z.1)))[j]? = some (some q.1) := by rw [hC, List.getElem?_map, hj]; rfl
    rw [List.getElem?_map] at h3
    cases hc : isC[j]? with
    | none => rw [hc] at h3; cases h3
    | some i2 =>
      rw [hc] at h3
      have h4 : (ws[i2]?).map (fun z => z.1) = some q.1 := Option.some.inj h3
      cases h5 : ws[i2]? with
      | none => rw [h5] at h4; cases h4
      | some q2 =>
        rw [h5] at h4
        have h6 : q2.1 = q.1 := Option.some.inj h4
        have h7 := hD.1 i2 i q2 q h5 h2 h6
        subst h7
        exact hdis i2 (List.mem_of_getElem? hi) (List.mem_of_getElem? hc)
/-- the same addresses, other contents -/
theorem th_Dsame {A : Nat → Prop} {ws ws' : va_W} (h : va_D A ws) (he : ws'.map (fun z => z.1) = ws.map (fun z => z.1)) : va_D A ws' := by
  have key : ∀ (k : Nat) (q : Nat × va_E), ws'[k]? = some q → ∃ q0 : Nat × va_E, ws[k]? = some q0 ∧ q0.1 = q.1 := by
    intro k q hk
    have h1 : (ws'.map (fun z => z.1))[k]? = some q.1 := by rw [List.getElem?_map, hk]; rfl
    rw [he, List.getElem?_map] at h1
    cases h2 : ws[k]? with
    | none => rw [h2] at h1; cases h1
    | some q0 => rw [h2] at h1; exact ⟨q0, rfl, Option.some.inj h1⟩
  refine ⟨fun i j x y hi hj hxy => ?_, fun k q hk => ?_⟩
  · obtain ⟨x0, h1, h2⟩ := key i x hi
    obtain ⟨y0, h3, h4⟩ := key j y hj
    exact h.1 i j x0 y0 h1 h3 (h2.trans (hxy.trans h4.symm))
  · obtain ⟨q0, h1, h2⟩ := key k q hk
    rw [← h2]
    exact h.2 k q0 h1
theorem th_nz {v : Int32} (h : v = 0 ∨ v = 1) : narrow .boolean (.int v) = .int v := by rcases h with rfl | rfl <;> rfl
theorem th_fz {v : Int32} (h : v = 0 ∨ v = 1) : fits .boolean (.int v) = true := by rcases h with rfl | rfl <;> rfl
end
section
theorem ok_X5_init : th_okI yX5_init cX5_init 2 0 := ⟨⟨tw_1_18, tw_1_1, by decide +kernel⟩, tw_1_17, rfl⟩
theorem ok_X0_init : th_okI yX0_init cX0_init 1 0 := ⟨⟨tw_1_30, tw_1_2, by decide +kernel⟩, tw_1_29, rfl⟩
theorem ok_X4_init : th_okI yX4_init cX4_init 1 0 := ⟨⟨tw_1_36, tw_1_3, by decide +kernel⟩, tw_1_35, rfl⟩
theorem ok_X1_init : th_okI yX1_init cX1_init 2 0 := ⟨⟨tw_1_78, tw_1_4, by decide +kernel⟩, tw_1_77, rfl⟩
theorem ok_X2_init : th_okI yX2_init cX2_init 1 0 := ⟨⟨tw_1_90, tw_1_5, by decide +kernel⟩, tw_1_89, rfl⟩
theorem ok_X3_init : th_okI yX3_init cX3_init 1 0 := ⟨⟨tw_1_107, tw_1_6, by decide +kernel⟩, tw_1_106, rfl⟩
theorem ok_X6_init : th_okI yX6_init cX6_init 2 0 := ⟨⟨tw_3_153, tw_1_7, by decide +kernel⟩, tw_3_152, rfl⟩
theorem ok_X5_append : th_okV yX5_append cX5_append 4 (some .int) 2 := ⟨⟨tw_1_174, tw_1_1, by decide +kernel⟩, tw_1_172, tw_1_173⟩
theorem ok_X5_viewNumbered : th_okV yX5_viewNumbered cX5_viewNumbered 3 (some (.object "TreeheadGallery$View")) 1 := ⟨⟨tw_1_178, tw_1_1, by decide +kernel⟩, tw_1_177, tw_0_0⟩
theorem ok_X5_requireRange : th_okS yX5_requireRange cX5_requireRange 3 none 3 := ⟨⟨tw_2_10, tw_1_1, by decide +kernel⟩, tw_2_9⟩
theorem ok_X5_requireRoom : th_okS yX5_requireRoom cX5_requireRoom 2 none 2 := ⟨⟨tw_2_29, tw_1_1, by decide +kernel⟩, tw_2_28⟩
theorem ok_X2_add : th_okV yX2_add cX2_add 4 none 1 := ⟨⟨tw_2_49, tw_1_5, by decide +kernel⟩, tw_2_47, tw_2_48⟩
theorem ok_X5_leafSum : th_okS yX5_leafSum cX5_leafSum 1 (some .int) 1 := ⟨⟨tw_2_52, tw_1_1, by decide +kernel⟩, tw_2_51⟩
theorem ok_X5_mix : th_okS yX5_mix cX5_mix 2 (some .int) 2 := ⟨⟨tw_2_58, tw_1_1, by decide +kernel⟩, tw_2_57⟩
theorem ok_X6_append : th_okV yX6_append cX6_append 3 (some .int) 2 := ⟨⟨tw_3_229, tw_1_7, by decide +kernel⟩, tw_3_227, tw_3_228⟩
theorem ok_X6_isView : th_okV yX6_isView cX6_isView 2 (some .boolean) 1 := ⟨⟨tw_3_233, tw_1_7, by decide +kernel⟩, tw_3_232, tw_0_9⟩
theorem ok_X6_in : th_okS yX6_in cX6_in 3 (some .boolean) 3 := ⟨⟨tw_3_236, tw_1_7, by decide +kernel⟩, tw_3_235⟩
theorem ok_X6_isValue : th_okS yX6_isValue cX6_isValue 1 (some .boolean) 1 := ⟨⟨tw_3_239, tw_1_7, by decide +kernel⟩, tw_3_238⟩
theorem ok_X6_goesWell : th_okV yX6_goesWell cX6_goesWell 2 (some .boolean) 1 := ⟨⟨tw_4_4, tw_1_7, by decide +kernel⟩, tw_4_3, tw_0_10⟩
theorem ok_X6_thrown : th_okV yX6_thrown cX6_thrown 1 (some .int) 0 := ⟨⟨tw_3_225, tw_1_7, by decide +kernel⟩, tw_3_223, tw_3_224⟩
theorem ok_X5_appendRow : th_okV yX5_appendRow cX5_appendRow 6 (some .int) 3 := ⟨⟨tw_2_68, tw_1_1, by decide +kernel⟩, tw_2_66, tw_2_67⟩
theorem ok_X6_appendRow : th_okV yX6_appendRow cX6_appendRow 6 (some .int) 3 := ⟨⟨tw_4_8, tw_1_7, by decide +kernel⟩, tw_4_6, tw_4_7⟩
theorem ok_X5_fork : th_okV yX5_fork cX5_fork 6 (some .int) 2 := ⟨⟨tw_2_75, tw_1_1, by decide +kernel⟩, tw_2_73, tw_2_74⟩
theorem ok_X2_valueAt : th_okV yX2_valueAt cX2_valueAt 2 (some .int) 1 := ⟨⟨tw_2_80, tw_1_5, by decide +kernel⟩, tw_2_78, tw_2_79⟩
theorem ok_X6_fork : th_okV yX6_fork cX6_fork 4 (some .int) 2 := ⟨⟨tw_4_12, tw_1_7, by decide +kernel⟩, tw_4_10, tw_4_11⟩
theorem ok_X5_views : th_okV yX5_views cX5_views 1 (some .int) 0 := ⟨⟨tw_1_152, tw_1_1, by decide +kernel⟩, tw_1_150, tw_1_151⟩
theorem ok_X6_views : th_okV yX6_views cX6_views 1 (some .int) 0 := ⟨⟨tw_4_16, tw_1_7, by decide +kernel⟩, tw_4_14, tw_4_15⟩
theorem ok_X5_size : th_okV yX5_size cX5_size 2 (some .int) 1 := ⟨⟨tw_2_87, tw_1_1, by decide +kernel⟩, tw_2_85, tw_2_86⟩
theorem ok_X6_size : th_okV yX6_size cX6_size 2 (some .int) 1 := ⟨⟨tw_4_20, tw_1_7, by decide +kernel⟩, tw_4_18, tw_4_19⟩
theorem ok_X5_leaf : th_okV yX5_leaf cX5_leaf 4 (some .int) 2 := ⟨⟨tw_2_94, tw_1_1, by decide +kernel⟩, tw_2_92, tw_2_93⟩
theorem ok_X6_leaf : th_okV yX6_leaf cX6_leaf 4 (some .int) 2 := ⟨⟨tw_4_24, tw_1_7, by decide +kernel⟩, tw_4_22, tw_4_23⟩
theorem ok_X5_root : th_okV yX5_root cX5_root 4 (some .int) 2 := ⟨⟨tw_2_102, tw_1_1, by decide +kernel⟩, tw_2_100, tw_2_101⟩
theorem ok_X2_rootAt : th_okV yX2_rootAt cX2_rootAt 2 (some .int) 1 := ⟨⟨tw_2_106, tw_1_5, by decide +kernel⟩, tw_2_104, tw_2_105⟩
theorem ok_X2_rootOfRow : th_okV yX2_rootOfRow cX2_rootOfRow 8 (some .int) 2 := ⟨⟨tw_2_110, tw_1_5, by decide +kernel⟩, tw_2_108, tw_2_109⟩
theorem ok_X2_blockAt : th_okV yX2_blockAt cX2_blockAt 2 (some .int) 1 := ⟨⟨tw_2_114, tw_1_5, by decide +kernel⟩, tw_2_113, tw_0_2⟩
theorem ok_X6_root : th_okV yX6_root cX6_root 3 (some .int) 2 := ⟨⟨tw_4_28, tw_1_7, by decide +kernel⟩, tw_4_26, tw_4_27⟩
theorem ok_X6_rootAnew : th_okV yX6_rootAnew cX6_rootAnew 4 (some .int) 2 := ⟨⟨tw_4_32, tw_1_7, by decide +kernel⟩, tw_4_30, tw_4_31⟩
theorem ok_X6_rootOf : th_okV yX6_rootOf cX6_rootOf 7 (some .int) 3 := ⟨⟨tw_4_36, tw_1_7, by decide +kernel⟩, tw_4_35, tw_0_11⟩
theorem ok_X6_leafSum : th_okS yX6_leafSum cX6_leafSum 1 (some .int) 1 := ⟨⟨tw_4_39, tw_1_7, by decide +kernel⟩, tw_4_38⟩
theorem ok_X6_mix : th_okS yX6_mix cX6_mix 2 (some .int) 2 := ⟨⟨tw_4_45, tw_1_7, by decide +kernel⟩, tw_4_44⟩
theorem ok_X5_rootAnew : th_okV yX5_rootAnew cX5_rootAnew 4 (some .int) 2 := ⟨⟨tw_2_121, tw_1_1, by decide +kernel⟩, tw_2_119, tw_2_120⟩
theorem ok_X2_rootFromValues : th_okV yX2_rootFromValues cX2_rootFromValues 2 (some .int) 1 := ⟨⟨tw_2_125, tw_1_5, by decide +kernel⟩, tw_2_123, tw_2_124⟩
theorem ok_X2_rootAnewOf : th_okS yX2_rootAnewOf cX2_rootAnewOf 5 (some .int) 4 := ⟨⟨tw_2_128, tw_1_5, by decide +kernel⟩, tw_2_127⟩
theorem ok_X2_greatestPowerBelow : th_okS yX2_greatestPowerBelow cX2_greatestPowerBelow 3 (some .int) 1 := ⟨⟨tw_2_131, tw_1_5, by decide +kernel⟩, tw_2_130⟩
theorem ok_X5_loadLeaf : th_okV yX5_loadLeaf cX5_loadLeaf 5 (some .int) 3 := ⟨⟨tw_2_138, tw_1_1, by decide +kernel⟩, tw_2_136, tw_2_137⟩
theorem ok_X0_takeLeafProof : th_okV yX0_takeLeafProof cX0_takeLeafProof 4 none 3 := ⟨⟨tw_2_142, tw_1_2, by decide +kernel⟩, tw_2_140, tw_2_141⟩
theorem ok_X4_leadToLeaf : th_okV yX4_leadToLeaf cX4_leadToLeaf 4 none 2 := ⟨⟨tw_2_146, tw_1_3, by decide +kernel⟩, tw_2_144, tw_2_145⟩
theorem ok_X4_begin : th_okV yX4_begin cX4_begin 3 none 2 := ⟨⟨tw_2_150, tw_1_3, by decide +kernel⟩, tw_2_149, tw_0_3⟩
theorem ok_X4_goDown : th_okV yX4_goDown cX4_goDown 2 none 0 := ⟨⟨tw_2_154, tw_1_3, by decide +kernel⟩, tw_2_153, tw_0_4⟩
theorem ok_X4_leaveBeside : th_okV yX4_leaveBeside cX4_leaveBeside 4 none 3 := ⟨⟨tw_2_159, tw_1_3, by decide +kernel⟩, tw_2_158, tw_0_5⟩
theorem ok_X0_takeRoots : th_okV yX0_takeRoots cX0_takeRoots 3 none 1 := ⟨⟨tw_2_163, tw_1_2, by decide +kernel⟩, tw_2_162, tw_0_6⟩
theorem ok_X4_rootOfPlace : th_okV yX4_rootOfPlace cX4_rootOfPlace 4 (some .int) 2 := ⟨⟨tw_2_167, tw_1_3, by decide +kernel⟩, tw_2_165, tw_2_166⟩
theorem ok_X6_loadLeaf : th_okV yX6_loadLeaf cX6_loadLeaf 5 (some .int) 3 := ⟨⟨tw_4_53, tw_1_7, by decide +kernel⟩, tw_4_51, tw_4_52⟩
theorem ok_X6_isSize : th_okV yX6_isSize cX6_isSize 3 (some .boolean) 2 := ⟨⟨tw_4_57, tw_1_7, by decide +kernel⟩, tw_4_56, tw_0_12⟩
theorem ok_X6_goToLeaf : th_okV yX6_goToLeaf cX6_goToLeaf 8 none 3 := ⟨⟨tw_4_61, tw_1_7, by decide +kernel⟩, tw_4_60, tw_0_13⟩
theorem ok_X6_split : th_okS yX6_split cX6_split 2 (some .int) 1 := ⟨⟨tw_4_64, tw_1_7, by decide +kernel⟩, tw_4_63⟩
theorem ok_X6_step : th_okV yX6_step cX6_step 6 none 4 := ⟨⟨tw_4_68, tw_1_7, by decide +kernel⟩, tw_4_67, tw_0_14⟩
theorem ok_X6_load : th_okV yX6_load cX6_load 2 (some .int) 0 := ⟨⟨tw_4_72, tw_1_7, by decide +kernel⟩, tw_4_71, tw_0_15⟩
theorem ok_X5_loadGrowth : th_okV yX5_loadGrowth cX5_loadGrowth 5 (some .int) 3 := ⟨⟨tw_2_175, tw_1_1, by decide +kernel⟩, tw_2_173, tw_2_174⟩
theorem ok_X0_takeGrowthProof : th_okV yX0_takeGrowthProof cX0_takeGrowthProof 4 none 3 := ⟨⟨tw_2_179, tw_1_2, by decide +kernel⟩, tw_2_177, tw_2_178⟩
theorem ok_X4_leadToGrowth : th_okV yX4_leadToGrowth cX4_leadToGrowth 4 none 2 := ⟨⟨tw_2_183, tw_1_3, by decide +kernel⟩, tw_2_181, tw_2_182⟩
theorem ok_X4_endsInTrust : th_okV yX4_endsInTrust cX4_endsInTrust 1 (some .boolean) 0 := ⟨⟨tw_2_187, tw_1_3, by decide +kernel⟩, tw_2_185, tw_2_186⟩
theorem ok_X6_loadGrowth : th_okV yX6_loadGrowth cX6_loadGrowth 5 (some .int) 3 := ⟨⟨tw_4_76, tw_1_7, by decide +kernel⟩, tw_4_74, tw_4_75⟩
theorem ok_X6_goToPart : th_okV yX6_goToPart cX6_goToPart 6 none 3 := ⟨⟨tw_4_80, tw_1_7, by decide +kernel⟩, tw_4_79, tw_0_16⟩
theorem ok_X5_loadKey : th_okV yX5_loadKey cX5_loadKey 2 (some .int) 1 := ⟨⟨tw_2_194, tw_1_1, by decide +kernel⟩, tw_2_192, tw_2_193⟩
theorem ok_X0_takeKeyProof : th_okV yX0_takeKeyProof cX0_takeKeyProof 4 none 2 := ⟨⟨tw_2_198, tw_1_2, by decide +kernel⟩, tw_2_196, tw_2_197⟩
theorem ok_X1_sumBeside : th_okV yX1_sumBeside cX1_sumBeside 3 (some .int) 2 := ⟨⟨tw_2_202, tw_1_4, by decide +kernel⟩, tw_2_200, tw_2_201⟩
theorem ok_X6_loadKey : th_okV yX6_loadKey cX6_loadKey 3 (some .int) 1 := ⟨⟨tw_4_84, tw_1_7, by decide +kernel⟩, tw_4_82, tw_4_83⟩
theorem ok_X6_isKey : th_okS yX6_isKey cX6_isKey 1 (some .boolean) 1 := ⟨⟨tw_4_87, tw_1_7, by decide +kernel⟩, tw_4_86⟩
theorem ok_X6_climb : th_okV yX6_climb cX6_climb 5 (some .int) 1 := ⟨⟨tw_4_91, tw_1_7, by decide +kernel⟩, tw_4_90, tw_0_17⟩
theorem ok_X6_keySum : th_okS yX6_keySum cX6_keySum 1 (some .int) 1 := ⟨⟨tw_4_94, tw_1_7, by decide +kernel⟩, tw_4_93⟩
theorem ok_X6_join : th_okS yX6_join cX6_join 2 (some .int) 2 := ⟨⟨tw_4_97, tw_1_7, by decide +kernel⟩, tw_4_96⟩
theorem ok_X5_change : th_okV yX5_change cX5_change 3 (some .int) 2 := ⟨⟨tw_2_209, tw_1_1, by decide +kernel⟩, tw_2_207, tw_2_208⟩
theorem ok_X0_write : th_okV yX0_write cX0_write 3 none 2 := ⟨⟨tw_2_216, tw_1_2, by decide +kernel⟩, tw_2_214, tw_2_215⟩
theorem ok_X6_change : th_okV yX6_change cX6_change 3 (some .int) 2 := ⟨⟨tw_4_101, tw_1_7, by decide +kernel⟩, tw_4_99, tw_4_100⟩
theorem ok_X5_shorten : th_okV yX5_shorten cX5_shorten 1 (some .int) 0 := ⟨⟨tw_2_223, tw_1_1, by decide +kernel⟩, tw_2_221, tw_2_222⟩
theorem ok_X0_dropLast : th_okV yX0_dropLast cX0_dropLast 2 (some .int) 0 := ⟨⟨tw_2_228, tw_1_2, by decide +kernel⟩, tw_2_226, tw_2_227⟩
theorem ok_X0_read : th_okV yX0_read cX0_read 2 (some .int) 1 := ⟨⟨tw_2_232, tw_1_2, by decide +kernel⟩, tw_2_230, tw_2_231⟩
theorem ok_X6_shorten : th_okV yX6_shorten cX6_shorten 1 (some .int) 0 := ⟨⟨tw_4_106, tw_1_7, by decide +kernel⟩, tw_4_104, tw_4_105⟩
theorem ok_X5_sums : th_okV yX5_sums cX5_sums 1 (some .int) 0 := ⟨⟨tw_1_156, tw_1_1, by decide +kernel⟩, tw_1_154, tw_1_155⟩
theorem ok_X6_sums : th_okV yX6_sums cX6_sums 1 (some .int) 0 := ⟨⟨tw_4_110, tw_1_7, by decide +kernel⟩, tw_4_108, tw_4_109⟩
theorem ok_X5_sumAt : th_okV yX5_sumAt cX5_sumAt 2 (some .int) 1 := ⟨⟨tw_2_239, tw_1_1, by decide +kernel⟩, tw_2_237, tw_2_238⟩
theorem ok_X6_sumAt : th_okV yX6_sumAt cX6_sumAt 2 (some .int) 1 := ⟨⟨tw_4_114, tw_1_7, by decide +kernel⟩, tw_4_112, tw_4_113⟩
theorem ok_X5_testLeaf : th_okV yX5_testLeaf cX5_testLeaf 6 (some .boolean) 4 := ⟨⟨tw_3_8, tw_1_1, by decide +kernel⟩, tw_3_6, tw_3_7⟩
theorem ok_X0_provesLeaf : th_okV yX0_provesLeaf cX0_provesLeaf 8 (some .boolean) 4 := ⟨⟨tw_3_12, tw_1_2, by decide +kernel⟩, tw_3_10, tw_3_11⟩
theorem ok_X4_isFirstAt : th_okV yX4_isFirstAt cX4_isFirstAt 3 (some .boolean) 1 := ⟨⟨tw_3_17, tw_1_3, by decide +kernel⟩, tw_3_15, tw_3_16⟩
theorem ok_X6_testLeaf : th_okV yX6_testLeaf cX6_testLeaf 8 (some .boolean) 4 := ⟨⟨tw_4_118, tw_1_7, by decide +kernel⟩, tw_4_116, tw_4_117⟩
theorem ok_X5_testGrowth : th_okV yX5_testGrowth cX5_testGrowth 7 (some .boolean) 4 := ⟨⟨tw_3_25, tw_1_1, by decide +kernel⟩, tw_3_23, tw_3_24⟩
theorem ok_X0_provesGrowth : th_okV yX0_provesGrowth cX0_provesGrowth 11 (some .boolean) 4 := ⟨⟨tw_3_29, tw_1_2, by decide +kernel⟩, tw_3_27, tw_3_28⟩
theorem ok_X6_testGrowth : th_okV yX6_testGrowth cX6_testGrowth 13 (some .boolean) 4 := ⟨⟨tw_4_122, tw_1_7, by decide +kernel⟩, tw_4_120, tw_4_121⟩
theorem ok_X5_testKey : th_okV yX5_testKey cX5_testKey 3 (some .boolean) 2 := ⟨⟨tw_3_37, tw_1_1, by decide +kernel⟩, tw_3_35, tw_3_36⟩
theorem ok_X1_rootSum : th_okV yX1_rootSum cX1_rootSum 1 (some .int) 0 := ⟨⟨tw_1_164, tw_1_4, by decide +kernel⟩, tw_1_162, tw_1_163⟩
theorem ok_X0_provesKey : th_okV yX0_provesKey cX0_provesKey 8 (some .boolean) 3 := ⟨⟨tw_3_41, tw_1_2, by decide +kernel⟩, tw_3_39, tw_3_40⟩
theorem ok_X5_keySum : th_okS yX5_keySum cX5_keySum 1 (some .int) 1 := ⟨⟨tw_3_44, tw_1_1, by decide +kernel⟩, tw_3_43⟩
theorem ok_X5_mapMix : th_okS yX5_mapMix cX5_mapMix 2 (some .int) 2 := ⟨⟨tw_3_48, tw_1_1, by decide +kernel⟩, tw_3_47⟩
theorem ok_X6_testKey : th_okV yX6_testKey cX6_testKey 5 (some .boolean) 2 := ⟨⟨tw_4_126, tw_1_7, by decide +kernel⟩, tw_4_124, tw_4_125⟩
theorem ok_X5_put : th_okV yX5_put cX5_put 3 (some .int) 2 := ⟨⟨tw_3_56, tw_1_1, by decide +kernel⟩, tw_3_54, tw_3_55⟩
theorem ok_X1_replace : th_okV yX1_replace cX1_replace 6 (some .int) 2 := ⟨⟨tw_3_60, tw_1_4, by decide +kernel⟩, tw_3_58, tw_3_59⟩
theorem ok_X6_put : th_okV yX6_put cX6_put 4 (some .int) 2 := ⟨⟨tw_4_130, tw_1_7, by decide +kernel⟩, tw_4_128, tw_4_129⟩
theorem ok_X5_remove : th_okV yX5_remove cX5_remove 2 (some .int) 1 := ⟨⟨tw_3_69, tw_1_1, by decide +kernel⟩, tw_3_67, tw_3_68⟩
theorem ok_X6_remove : th_okV yX6_remove cX6_remove 3 (some .int) 1 := ⟨⟨tw_4_134, tw_1_7, by decide +kernel⟩, tw_4_132, tw_4_133⟩
theorem ok_X5_get : th_okV yX5_get cX5_get 2 (some .int) 1 := ⟨⟨tw_3_76, tw_1_1, by decide +kernel⟩, tw_3_74, tw_3_75⟩
theorem ok_X1_valueAt : th_okV yX1_valueAt cX1_valueAt 2 (some .int) 1 := ⟨⟨tw_3_80, tw_1_4, by decide +kernel⟩, tw_3_78, tw_3_79⟩
theorem ok_X6_get : th_okV yX6_get cX6_get 2 (some .int) 1 := ⟨⟨tw_4_138, tw_1_7, by decide +kernel⟩, tw_4_136, tw_4_137⟩
theorem ok_X5_mapRoot : th_okV yX5_mapRoot cX5_mapRoot 1 (some .int) 0 := ⟨⟨tw_1_160, tw_1_1, by decide +kernel⟩, tw_1_158, tw_1_159⟩
theorem ok_X6_mapRoot : th_okV yX6_mapRoot cX6_mapRoot 1 (some .int) 0 := ⟨⟨tw_4_142, tw_1_7, by decide +kernel⟩, tw_4_140, tw_4_141⟩
theorem ok_X5_show : th_okV yX5_show cX5_show 4 (some .boolean) 2 := ⟨⟨tw_3_87, tw_1_1, by decide +kernel⟩, tw_3_85, tw_3_86⟩
theorem ok_X5_watcherNumbered : th_okV yX5_watcherNumbered cX5_watcherNumbered 3 (some (.object "TreeheadGallery$Watcher")) 1 := ⟨⟨tw_3_91, tw_1_1, by decide +kernel⟩, tw_3_90, tw_0_7⟩
theorem ok_X3_look : th_okV yX3_look cX3_look 3 (some .boolean) 1 := ⟨⟨tw_3_96, tw_1_6, by decide +kernel⟩, tw_3_94, tw_3_95⟩
theorem ok_X3_countNew : th_okV yX3_countNew cX3_countNew 3 none 1 := ⟨⟨tw_3_101, tw_1_6, by decide +kernel⟩, tw_3_100, tw_0_8⟩
theorem ok_X6_show : th_okV yX6_show cX6_show 6 (some .boolean) 2 := ⟨⟨tw_4_146, tw_1_7, by decide +kernel⟩, tw_4_144, tw_4_145⟩
theorem ok_X6_isWatcher : th_okS yX6_isWatcher cX6_isWatcher 1 (some .boolean) 1 := ⟨⟨tw_4_149, tw_1_7, by decide +kernel⟩, tw_4_148⟩
theorem ok_X5_gossip : th_okV yX5_gossip cX5_gossip 6 (some .boolean) 2 := ⟨⟨tw_3_109, tw_1_1, by decide +kernel⟩, tw_3_107, tw_3_108⟩
theorem ok_X3_fits : th_okV yX3_fits cX3_fits 2 (some .boolean) 1 := ⟨⟨tw_3_113, tw_1_6, by decide +kernel⟩, tw_3_111, tw_3_112⟩
theorem ok_X6_gossip : th_okV yX6_gossip cX6_gossip 6 (some .boolean) 2 := ⟨⟨tw_4_153, tw_1_7, by decide +kernel⟩, tw_4_151, tw_4_152⟩
theorem ok_X5_follow : th_okV yX5_follow cX5_follow 4 none 2 := ⟨⟨tw_3_120, tw_1_1, by decide +kernel⟩, tw_3_118, tw_3_119⟩
theorem ok_X6_follow : th_okV yX6_follow cX6_follow 3 none 2 := ⟨⟨tw_4_157, tw_1_7, by decide +kernel⟩, tw_4_155, tw_4_156⟩
theorem ok_X5_isAlarmed : th_okV yX5_isAlarmed cX5_isAlarmed 2 (some .boolean) 1 := ⟨⟨tw_3_127, tw_1_1, by decide +kernel⟩, tw_3_125, tw_3_126⟩
theorem ok_X6_isAlarmed : th_okV yX6_isAlarmed cX6_isAlarmed 2 (some .boolean) 1 := ⟨⟨tw_4_161, tw_1_7, by decide +kernel⟩, tw_4_159, tw_4_160⟩
theorem ok_X5_keptSize : th_okV yX5_keptSize cX5_keptSize 2 (some .int) 1 := ⟨⟨tw_3_134, tw_1_1, by decide +kernel⟩, tw_3_132, tw_3_133⟩
theorem ok_X6_keptSize : th_okV yX6_keptSize cX6_keptSize 2 (some .int) 1 := ⟨⟨tw_4_165, tw_1_7, by decide +kernel⟩, tw_4_163, tw_4_164⟩
theorem ok_X5_keptRoot : th_okV yX5_keptRoot cX5_keptRoot 2 (some .int) 1 := ⟨⟨tw_3_141, tw_1_1, by decide +kernel⟩, tw_3_139, tw_3_140⟩
theorem ok_X6_keptRoot : th_okV yX6_keptRoot cX6_keptRoot 2 (some .int) 1 := ⟨⟨tw_4_169, tw_1_7, by decide +kernel⟩, tw_4_167, tw_4_168⟩
theorem ok_X5_counted : th_okV yX5_counted cX5_counted 2 (some .int) 1 := ⟨⟨tw_3_148, tw_1_1, by decide +kernel⟩, tw_3_146, tw_3_147⟩
theorem ok_X6_counted : th_okV yX6_counted cX6_counted 2 (some .int) 1 := ⟨⟨tw_4_173, tw_1_7, by decide +kernel⟩, tw_4_171, tw_4_172⟩
end
section
/-! numbers: sums, the split, the root of a row of leaves -/
def th_ls (v : Int32) : Int32 := ((40503 : Int64) * v.toInt64 + 12345 - ((40503 : Int64) * v.toInt64 + 12345) / 1000003 * 1000003).toInt32
def th_mx (a b : Int32) : Int32 := ((7919 : Int64) * a.toInt64 + (31337 : Int64) * b.toInt64 + 11 - ((7919 : Int64) * a.toInt64 + (31337 : Int64) * b.toInt64 + 11) / 1000003 * 1000003).toInt32
def th_ks (v : Int32) : Int32 := if v = -1 then 0 else th_ls (v + 1)
def th_jn (a b : Int32) : Int32 := if a = 0 ∧ b = 0 then 0 else th_mx a b
/-- the greatest power of two below n; 1 if there is none -/
def th_sp (n : Nat) : Nat := 2 ^ Nat.log2 (n - 1)
theorem th_sp_lt {n : Nat} (h : 2 ≤ n) : th_sp n < n := by
  have h1 : 2 ^ Nat.log2 (n - 1) ≤ n - 1 := Nat.log2_self_le (by omega)
  unfold th_sp; omega
theorem th_sp_pos (n : Nat) : 0 < th_sp n := Nat.two_pow_pos _
theorem th_sp_ge {n : Nat} (h : 2 ≤ n) : n ≤ 2 * th_sp n := by
  have h1 : n - 1 < 2 ^ (Nat.log2 (n - 1) + 1) := Nat.lt_log2_self
  unfold th_sp
  rw [Nat.pow_succ] at h1
  omega
theorem th_sp_eq {n j : Nat} (h1 : 2 ^ j < n) (h2 : n ≤ 2 ^ (j + 1)) : th_sp n = 2 ^ j := by
  unfold th_sp
  have h0 : 0 < 2 ^ j := Nat.two_pow_pos j
  have e : Nat.log2 (n - 1) = j := (Nat.log2_eq_iff (by omega)).mpr ⟨by omega, by omega⟩
  rw [e]
theorem th_sp_two (n : Nat) : ∃ j, th_sp n = 2 ^ j := ⟨_, rfl⟩
theorem th_sp_1 : th_sp 1 = 1 := by decide
/-- the root of the row of n leaves from a on -/
def th_rt (f : Nat → Int32) (a n : Nat) : Int32 :=
  if h : n ≤ 1 then (if n = 0 then 0 else th_ls (f a)) else th_mx (th_rt f a (th_sp n)) (th_rt f (a + th_sp n) (n - th_sp n))
termination_by n
decreasing_by
  · exact th_sp_lt (by omega)
  · have := th_sp_pos n; omega
theorem th_rt_0 (f : Nat → Int32) (a : Nat) : th_rt f a 0 = 0 := by unfold th_rt; simp
theorem th_rt_1 (f : Nat → Int32) (a : Nat) : th_rt f a 1 = th_ls (f a) := by unfold th_rt; simp
theorem th_rt_s (f : Nat → Int32) (a : Nat) {n : Nat} (h : 2 ≤ n) : th_rt f a n = th_mx (th_rt f a (th_sp n)) (th_rt f (a + th_sp n) (n - th_sp n)) := by
  rw [th_rt, dif_neg (by omega)]
theorem th_rt_c {f g : Nat → Int32} : ∀ (n a b : Nat), (∀ i, i < n → f (a + i) = g (b + i)) → th_rt f a n = th_rt g b n := by
  intro n
  induction n using Nat.strongRecOn with
  | _ n ih =>
    intro a b h
    rcases Nat.lt_or_ge n 2 with h2 | h2
    · rcases (show n = 0 ∨ n = 1 by omega) with rfl | rfl
      · rw [th_rt_0, th_rt_0]
      · rw [th_rt_1, th_rt_1]
        have := h 0 (by omega)
        simp only [Nat.add_zero] at this
        rw [this]
    · have hl := th_sp_lt h2
      have hp := th_sp_pos n
      rw [th_rt_s f a h2, th_rt_s g b h2, ih _ hl a b (fun i hi => h i (by omega)), ih (n - th_sp n) (by omega) (a + th_sp n) (b + th_sp n) (fun i hi => by
        have := h (th_sp n + i) (by omega)
        rw [← Nat.add_assoc, ← Nat.add_assoc] at this
        exact this)]
/-- a whole block over two -/
theorem th_rt_2 (f : Nat → Int32) (a L : Nat) : th_rt f a (2 ^ (L + 1)) = th_mx (th_rt f a (2 ^ L)) (th_rt f (a + 2 ^ L) (2 ^ L)) := by
  have h0 : 0 < 2 ^ L := Nat.two_pow_pos L
  have h1 : 2 ^ (L + 1) = 2 ^ L + 2 ^ L := by rw [Nat.pow_succ]; omega
  have hs : th_sp (2 ^ (L + 1)) = 2 ^ L := th_sp_eq (by omega) (by omega)
  rw [th_rt_s f a (by omega), hs, show 2 ^ (L + 1) - 2 ^ L = 2 ^ L by omega]
/-- a whole block ahead of fewer leaves -/
theorem th_rt_b (f : Nat → Int32) (a : Nat) {L r : Nat} (h0 : 0 < r) (h1 : r ≤ 2 ^ L) : th_rt f a (2 ^ L + r) = th_mx (th_rt f a (2 ^ L)) (th_rt f (a + 2 ^ L) r) := by
  have hp : 0 < 2 ^ L := Nat.two_pow_pos L
  have hs : th_sp (2 ^ L + r) = 2 ^ L := th_sp_eq (by omega) (by rw [Nat.pow_succ]; omega)
  rw [th_rt_s f a (by omega), hs, show 2 ^ L + r - 2 ^ L = r by omega]
end
section
/-! a view's heap of sums: every whole block of its leaves has its root there -/
def th_BI (f g : Nat → Int32) (n : Nat) : Prop := ∀ L i : Nat, L ≤ 7 → (i + 1) * 2 ^ L ≤ n → g (128 / 2 ^ L + i) = th_rt f (i * 2 ^ L) (2 ^ L)
def th_BJ (f g : Nat → Int32) (n v : Nat) : Prop := ∀ L i : Nat, L ≤ 7 → (i + 1) * 2 ^ L ≤ n + 1 → (L ≤ v ∨ (i + 1) * 2 ^ L ≤ n) → g (128 / 2 ^ L + i) = th_rt f (i * 2 ^ L) (2 ^ L)
theorem th_BI_0 (f g : Nat → Int32) : th_BI f g 0 := fun L i _ h => by
  have : 0 < 2 ^ L := Nat.two_pow_pos L
  have h2 : 0 < (i + 1) * 2 ^ L := Nat.mul_pos (Nat.succ_pos i) this
  omega
theorem th_c8 {P : Nat → Prop} (h : P 0 ∧ P 1 ∧ P 2 ∧ P 3 ∧ P 4 ∧ P 5 ∧ P 6 ∧ P 7) : ∀ L, L ≤ 7 → P L := by
  obtain ⟨h0, h1, h2, h3, h4, h5, h6, h7⟩ := h
  intro L hL
  rcases (show L = 0 ∨ L = 1 ∨ L = 2 ∨ L = 3 ∨ L = 4 ∨ L = 5 ∨ L = 6 ∨ L = 7 by omega) with rfl | rfl | rfl | rfl | rfl | rfl | rfl | rfl <;> assumption
theorem th_BJ_0 {f g : Nat → Int32} {n : Nat} (x : Int32) (hn : n < 100) (h : th_BI f g n) : th_BJ (upd f n x) (upd g (128 + n) (th_ls x)) n 0 := by
  intro L i hL h1 h2
  have hp : 0 < 2 ^ L := Nat.two_pow_pos L
  by_cases hx : 128 / 2 ^ L + i = 128 + n
  · have hL0 : L = 0 := by
      revert L
      refine th_c8 ⟨?_, ?_, ?_, ?_, ?_, ?_, ?_, ?_⟩ <;> intros <;> simp only [Nat.reducePow, Nat.reduceDiv] at * <;> omega
    subst hL0
    have hi : i = n := by simp only [Nat.reducePow, Nat.reduceDiv] at *; omega
    subst hi
    rw [hx, pk_us]
    rw [show i * 2 ^ 0 = i by omega, show 2 ^ 0 = 1 from rfl, th_rt_1, pk_us]
  · have h3 : (i + 1) * 2 ^ L ≤ n := by
      rcases h2 with h2 | h2
      · have hL0 : L = 0 := by omega
        subst hL0
        simp only [Nat.reducePow, Nat.reduceDiv] at *; omega
      · exact h2
    rw [pk_un hx, h L i hL h3]
    refine th_rt_c _ _ _ (fun j hj => ?_)
    have h4 : i * 2 ^ L + j < n := by
      have : (i + 1) * 2 ^ L = i * 2 ^ L + 2 ^ L := Nat.succ_mul i (2 ^ L)
      omega
    rw [pk_un (by omega)]
theorem th_BJ_s {f g : Nat → Int32} {n v q : Nat} (hn : n < 100) (hv : v < 7) (h : th_BJ f g n v) (hq : q = (128 + n) / 2 ^ v) (ho : q % 2 = 1) (hm : (n + 1) % 2 ^ v = 0) : th_BJ f (upd g (q / 2) (th_mx (g (q - 1)) (g q))) n (v + 1) ∧ q / 2 = (128 + n) / 2 ^ (v + 1) ∧ (n + 1) % 2 ^ (v + 1) = 0 := by
  have e1 : q / 2 = (128 + n) / 2 ^ (v + 1) := by rw [hq, Nat.div_div_eq_div_mul, Nat.pow_succ]
  have e2 : (n + 1) % 2 ^ (v + 1) = 0 := by
    have hv' : v ≤ 7 := by omega
    revert v
    intro v
    revert v
    intro v hv h hq hm e1 hv'
    rcases (show v = 0 ∨ v = 1 ∨ v = 2 ∨ v = 3 ∨ v = 4 ∨ v = 5 ∨ v = 6 by omega) with rfl | rfl | rfl | rfl | rfl | rfl | rfl <;> simp only [Nat.reducePow, Nat.reduceAdd] at * <;> omega
  refine ⟨?_, e1, e2⟩
  intro L i hL h1 h2
  have hp : 0 < 2 ^ L := Nat.two_pow_pos L
  by_cases hx : 128 / 2 ^ L + i = q / 2
  · have hL1 : L = v + 1 := by
      rcases (show v = 0 ∨ v = 1 ∨ v = 2 ∨ v = 3 ∨ v = 4 ∨ v = 5 ∨ v = 6 by omega) with rfl | rfl | rfl | rfl | rfl | rfl | rfl <;>
        rcases (show L = 0 ∨ L = 1 ∨ L = 2 ∨ L = 3 ∨ L = 4 ∨ L = 5 ∨ L = 6 ∨ L = 7 by omega) with rfl | rfl | rfl | rfl | rfl | rfl | rfl | rfl <;>
        first | rfl | (exfalso; simp only [Nat.reducePow, Nat.reduceAdd, Nat.reduceDiv] at hx e1 h1; omega)
    subst hL1
    have hLv : (i + 1) * 2 ^ (v + 1) = n + 1 ∧ q - 1 = 128 / 2 ^ v + 2 * i ∧ q = 128 / 2 ^ v + (2 * i + 1) ∧ (2 * i + 1 + 1) * 2 ^ v ≤ n + 1 ∧ (2 * i + 1) * 2 ^ v ≤ n := by
      rcases (show v = 0 ∨ v = 1 ∨ v = 2 ∨ v = 3 ∨ v = 4 ∨ v = 5 ∨ v = 6 by omega) with rfl | rfl | rfl | rfl | rfl | rfl | rfl <;>
        simp only [Nat.reducePow, Nat.reduceAdd, Nat.reduceDiv] at hx hq e1 e2 h1 ⊢ <;> omega
    obtain ⟨h3, h4, h5, h6, h7⟩ := hLv
    rw [hx, pk_us, h4, h v (2 * i) (by omega) (by omega) (Or.inl (Nat.le_refl v)), h5, h v (2 * i + 1) (by omega) h6 (Or.inl (Nat.le_refl v))]
    rw [th_rt_2 f (i * 2 ^ (v + 1)) v]
    have e3 : 2 * i * 2 ^ v = i * 2 ^ (v + 1) := by rw [Nat.pow_succ, Nat.mul_comm 2 i, Nat.mul_assoc, Nat.mul_comm 2]
    have e4 : (2 * i + 1) * 2 ^ v = i * 2 ^ (v + 1) + 2 ^ v := by rw [Nat.add_mul, e3, Nat.one_mul]
    rw [e3, e4]
  · rw [pk_un hx]
    refine h L i hL h1 ?_
    rcases h2 with h2 | h2
    · rcases Nat.lt_or_ge v L with h3 | h3
      · refine Or.inr ?_
        have hLv : L = v + 1 := by omega
        subst hLv
        rcases (show v = 0 ∨ v = 1 ∨ v = 2 ∨ v = 3 ∨ v = 4 ∨ v = 5 ∨ v = 6 by omega) with rfl | rfl | rfl | rfl | rfl | rfl | rfl <;> simp only [Nat.reducePow, Nat.reduceAdd, Nat.reduceDiv] at * <;> omega
      · exact Or.inl h3
    · exact Or.inr h2
theorem th_BJ_e {f g : Nat → Int32} {n v q : Nat} (hn : n < 100) (hv : v ≤ 7) (h : th_BJ f g n v) (hq : q = (128 + n) / 2 ^ v) (ho : q % 2 = 0 ∨ 7 ≤ v) (hm : (n + 1) % 2 ^ v = 0) : th_BI f g (n + 1) := by
  intro L i hL h1
  refine h L i hL h1 ?_
  rcases Nat.lt_or_ge v L with h3 | h3
  · refine Or.inr ?_
    rcases (show v = 0 ∨ v = 1 ∨ v = 2 ∨ v = 3 ∨ v = 4 ∨ v = 5 ∨ v = 6 ∨ v = 7 by omega) with rfl | rfl | rfl | rfl | rfl | rfl | rfl | rfl <;>
      rcases (show L = 0 ∨ L = 1 ∨ L = 2 ∨ L = 3 ∨ L = 4 ∨ L = 5 ∨ L = 6 ∨ L = 7 by omega) with rfl | rfl | rfl | rfl | rfl | rfl | rfl | rfl <;>
      simp only [Nat.reducePow, Nat.reduceAdd, Nat.reduceDiv] at * <;> omega
  · exact Or.inl h3
/-- a row of leaves that lies by a power of two -/
def th_al (a n : Nat) : Prop := ∃ L : Nat, L ≤ 7 ∧ n ≤ 2 ^ L ∧ a % 2 ^ L = 0
theorem th_al_0 {n : Nat} (h : n ≤ 128) : th_al 0 n := ⟨7, Nat.le_refl 7, h, rfl⟩
/-- one bit of the row's length: the block that it stands for -/
theorem th_row_s {f g : Nat → Int32} {n a m v e : Nat} (hn : n ≤ 100) (hB : th_BI f g n) (ha : th_al a m) (hm : a + m ≤ n) (hv : v < 7) (he : e + m % 2 ^ v = a + m) (hb : m / 2 ^ v % 2 = 1) :
    2 ^ v ≤ e ∧ (128 + (e - 2 ^ v)) / 2 ^ v < 256 ∧ e - 2 ^ v + m % 2 ^ (v + 1) = a + m ∧ th_rt f (e - 2 ^ v) (m % 2 ^ (v + 1)) = (if m % 2 ^ v = 0 then g ((128 + (e - 2 ^ v)) / 2 ^ v) else th_mx (g ((128 + (e - 2 ^ v)) / 2 ^ v)) (th_rt f e (m % 2 ^ v))) := by
  obtain ⟨L, hL, h1, h2⟩ := ha
  have hp : 0 < 2 ^ v := Nat.two_pow_pos v
  have k : 2 ^ v ≤ e ∧ (128 + (e - 2 ^ v)) / 2 ^ v < 256 ∧ e - 2 ^ v + m % 2 ^ (v + 1) = a + m ∧ m % 2 ^ (v + 1) = 2 ^ v + m % 2 ^ v ∧ (128 + (e - 2 ^ v)) / 2 ^ v = 128 / 2 ^ v + (e - 2 ^ v) / 2 ^ v ∧ (e - 2 ^ v) / 2 ^ v * 2 ^ v = e - 2 ^ v ∧ ((e - 2 ^ v) / 2 ^ v + 1) * 2 ^ v ≤ n := by
    rcases (show v = 0 ∨ v = 1 ∨ v = 2 ∨ v = 3 ∨ v = 4 ∨ v = 5 ∨ v = 6 by omega) with rfl | rfl | rfl | rfl | rfl | rfl | rfl <;>
      rcases (show L = 0 ∨ L = 1 ∨ L = 2 ∨ L = 3 ∨ L = 4 ∨ L = 5 ∨ L = 6 ∨ L = 7 by omega) with rfl | rfl | rfl | rfl | rfl | rfl | rfl | rfl <;>
      simp only [Nat.reducePow, Nat.reduceAdd, Nat.reduceDiv] at * <;> omega
  obtain ⟨k1, k2, k3, k4, k5, k6, k7⟩ := k
  refine ⟨k1, k2, k3, ?_⟩
  have hg : g ((128 + (e - 2 ^ v)) / 2 ^ v) = th_rt f (e - 2 ^ v) (2 ^ v) := by
    rw [k5, hB v _ (by omega) k7, k6]
  rw [hg, k4]
  by_cases h0 : m % 2 ^ v = 0
  · rw [if_pos h0, h0, Nat.add_zero]
  · rw [if_neg h0, th_rt_b f (e - 2 ^ v) (by omega) (Nat.le_of_lt (Nat.mod_lt _ hp)), show e - 2 ^ v + 2 ^ v = e by omega]
theorem th_row_z {m v : Nat} (hb : m / 2 ^ v % 2 = 0) (hv : v < 7) : m % 2 ^ (v + 1) = m % 2 ^ v := by
  rcases (show v = 0 ∨ v = 1 ∨ v = 2 ∨ v = 3 ∨ v = 4 ∨ v = 5 ∨ v = 6 by omega) with rfl | rfl | rfl | rfl | rfl | rfl | rfl <;> simp only [Nat.reducePow, Nat.reduceAdd] at * <;> omega
theorem th_dec {a d : Nat} (h : d ≤ a) : nI a + Int32.ofInt (-(d : Int)) = nI (a - d) := by
  rw [show nI (a - d) = nI a - nI d from (pk_sub h).symm]
  have : Int32.ofInt (-(d : Int)) = - nI d := by
    rw [show nI d = Int32.ofInt (d : Int) from rfl, ← Int32.ofInt_neg]
  rw [this, Int32.sub_eq_add_neg]
theorem th_s5 : ∀ n, n < 32 → ((nI n &&& 31).toBitVec.smod 32).toNat = n := by decide +kernel
theorem th_sp_le {n k : Nat} (h : 2 ≤ n) (hk : n ≤ 2 ^ (k + 1)) : th_sp n ≤ 2 ^ k := by
  have h1 := th_sp_lt h
  obtain ⟨j, hj⟩ := th_sp_two n
  rw [hj] at h1 ⊢
  have h2 : j < k + 1 := (Nat.pow_lt_pow_iff_right (by decide : 1 < 2)).mp (Nat.lt_of_lt_of_le h1 hk)
  exact Nat.pow_le_pow_right (by decide) (by omega)
end
section
/-! the way to a leaf, as numbers: q = (first leaf of the row, its length, the leaf in it) -/
abbrev th_q3 : Type := Nat × Nat × Nat
def th_nx (q : th_q3) : th_q3 := if q.2.2 < th_sp q.2.1 then (q.1, th_sp q.2.1, q.2.2) else (q.1 + th_sp q.2.1, q.2.1 - th_sp q.2.1, q.2.2 - th_sp q.2.1)
def th_bf (q : th_q3) : Nat := if q.2.2 < th_sp q.2.1 then q.1 + th_sp q.2.1 else q.1
def th_bn (q : th_q3) : Nat := if q.2.2 < th_sp q.2.1 then q.2.1 - th_sp q.2.1 else th_sp q.2.1
/-- 1 where the row beside is of the first leaves -/
def th_fi (q : th_q3) : Int32 := if q.2.2 < th_sp q.2.1 then nI 0 else nI 1
theorem th_fi01 (q : th_q3) : th_fi q = 0 ∨ th_fi q = 1 := by
  unfold th_fi; split
  · exact Or.inl rfl
  · exact Or.inr rfl
def th_wa (q : th_q3) : Nat → th_q3
  | 0 => q
  | i + 1 => th_nx (th_wa q i)
/-- a row that lies in the first n leaves, by a power of two -/
def th_in3 (n : Nat) (q : th_q3) : Prop := q.2.2 < q.2.1 ∧ q.1 + q.2.1 ≤ n ∧ th_al q.1 q.2.1
theorem th_mod2 {a j L : Nat} (h : a % 2 ^ L = 0) (hj : j ≤ L) : a % 2 ^ j = 0 := by
  have h1 : 2 ^ L ∣ a := Nat.dvd_of_mod_eq_zero h
  exact Nat.mod_eq_zero_of_dvd (Nat.dvd_trans (Nat.pow_dvd_pow 2 hj) h1)
theorem th_in3_s {n k : Nat} {q : th_q3} (h : th_in3 n q) (h2 : 2 ≤ q.2.1) (hk : q.2.1 ≤ 2 ^ (k + 1)) : th_in3 n (th_nx q) ∧ (th_nx q).2.1 ≤ 2 ^ k ∧ th_al (th_bf q) (th_bn q) ∧ th_bf q + th_bn q ≤ n ∧ 1 ≤ th_bn q := by
  obtain ⟨F, N, T⟩ := q
  obtain ⟨h1, h3, L, hL, h4, h5⟩ := h
  dsimp only at h1 h3 h4 h5 h2 hk
  have s1 := th_sp_lt h2
  have s2 := th_sp_pos N
  have s3 := th_sp_ge h2
  have s4 := th_sp_le h2 hk
  obtain ⟨j, hj⟩ := th_sp_two N
  have hjL : j < L := (Nat.pow_lt_pow_iff_right (by decide : 1 < 2)).mp (by rw [← hj]; omega)
  have m1 : F % 2 ^ j = 0 := th_mod2 h5 (by omega)
  have m2 : (F + 2 ^ j) % 2 ^ j = 0 := by rw [Nat.add_mod_right]; exact m1
  have a1 : th_al F (th_sp N) := ⟨j, by omega, by rw [hj]; exact Nat.le_refl _, m1⟩
  have a2 : th_al (F + th_sp N) (N - th_sp N) := ⟨j, by omega, by rw [← hj]; omega, by rw [hj]; exact m2⟩
  unfold th_in3 th_nx th_bf th_bn
  dsimp only
  by_cases c : T < th_sp N
  · simp only [if_pos c]
    exact ⟨⟨c, by omega, a1⟩, s4, a2, by omega, by omega⟩
  · simp only [if_neg c]
    exact ⟨⟨by omega, by omega, a2⟩, by omega, a1, by omega, by omega⟩
/-- the first row that stops: at most 8 looks -/
def th_dF (P : th_q3 → Bool) : Nat → th_q3 → Nat
  | 0, _ => 0
  | k + 1, q => if P q then 0 else 1 + th_dF P k (th_nx q)
theorem th_wa_s (q : th_q3) : ∀ i, th_wa (th_nx q) i = th_wa q (i + 1)
  | 0 => rfl
  | i + 1 => by show th_nx (th_wa (th_nx q) i) = th_nx (th_wa q (i + 1)); rw [th_wa_s q i]
theorem th_dF_eq (P : th_q3 → Bool) : ∀ (k d : Nat) (q : th_q3), d < k → P (th_wa q d) = true → (∀ j, j < d → P (th_wa q j) = false) → th_dF P k q = d := by
  intro k
  induction k with
  | zero => intro d q h; omega
  | succ k ih =>
    intro d q hd h1 h2
    unfold th_dF
    cases d with
    | zero => exact if_pos (show P q = true from h1)
    | succ d =>
      have h0 : P q = false := h2 0 (by omega)
      rw [if_neg (by rw [h0]; decide), ih d (th_nx q) (by omega) (by rw [th_wa_s]; exact h1) (fun j hj => by rw [th_wa_s]; exact h2 (j + 1) (by omega))]
      omega
def th_sL (q : th_q3) : Bool := decide (q.2.1 ≤ 1)
def th_sG (q : th_q3) : Bool := decide (q.2.1 ≤ q.2.2 + 1)
/-- how many rows lie beside the way to a leaf; to the end of the first leaves -/
def th_dL (q : th_q3) : Nat := th_dF th_sL 8 q
def th_dG (q : th_q3) : Nat := th_dF th_sG 8 q
/-- along the way, as long as rows are split -/
theorem th_wa_in {n : Nat} {q : th_q3} (h : th_in3 n q) (hq : q.2.1 ≤ 128) : ∀ i, i ≤ 7 → (∀ j, j < i → 2 ≤ (th_wa q j).2.1) → th_in3 n (th_wa q i) ∧ (th_wa q i).2.1 ≤ 2 ^ (7 - i) := by
  intro i
  induction i with
  | zero => intro _ _; exact ⟨h, hq⟩
  | succ i ih =>
    intro hi hj
    obtain ⟨h1, h2⟩ := ih (by omega) (fun j hj' => hj j (by omega))
    have h3 := th_in3_s (k := 7 - (i + 1)) h1 (hj i (by omega)) (by rw [show 7 - (i + 1) + 1 = 7 - i by omega]; exact h2)
    exact ⟨h3.1, h3.2.1⟩
theorem th_wa_7 {n : Nat} {q : th_q3} (h : th_in3 n q) (hq : q.2.1 ≤ 128) {i : Nat} (hi : i ≤ 7) (hj : ∀ j, j < i → 2 ≤ (th_wa q j).2.1) (h2 : 2 ≤ (th_wa q i).2.1) : i < 7 := by
  rcases Nat.lt_or_ge i 7 with c | c
  · exact c
  · obtain rfl : i = 7 := by omega
    have h3 := (th_wa_in h hq 7 (by omega) hj).2
    simp only [Nat.sub_self, Nat.pow_zero] at h3
    omega
/-- the rows of a way: what the three arrays hold -/
def th_RW (fr le fi : Nat → Int32) (B N : Nat → Nat) (Fi : Nat → Int32) (r : Nat) : Prop := ∀ i, i < r → fr i = nI (B i) ∧ le i = nI (N i) ∧ fi i = Fi i
theorem th_RW_0 {fr le fi : Nat → Int32} {B N : Nat → Nat} {Fi : Nat → Int32} : th_RW fr le fi B N Fi 0 := fun i h => by omega
theorem th_RW_s {fr le fi : Nat → Int32} {B N : Nat → Nat} {Fi : Nat → Int32} {r : Nat} (h : th_RW fr le fi B N Fi r) {x y z : Int32} (hx : x = nI (B r)) (hy : y = nI (N r)) (hz : z = Fi r) : th_RW (upd fr r x) (upd le r y) (upd fi r z) B N Fi (r + 1) := by
  intro i hi
  by_cases c : i = r
  · subst c
    rw [pk_us, pk_us, pk_us]
    exact ⟨hx, hy, hz⟩
  · rw [pk_un c, pk_un c, pk_un c]
    exact h i (by omega)
/-- the rows beside the way to a leaf, and with the last row behind them -/
def th_B (q : th_q3) (i : Nat) : Nat := th_bf (th_wa q i)
def th_L (q : th_q3) (i : Nat) : Nat := th_bn (th_wa q i)
def th_F (q : th_q3) (i : Nat) : Int32 := th_fi (th_wa q i)
def th_gB (q : th_q3) (i : Nat) : Nat := if i < th_dG q then th_bf (th_wa q i) else (th_wa q i).1
def th_gL (q : th_q3) (i : Nat) : Nat := if i < th_dG q then th_bn (th_wa q i) else (th_wa q i).2.1
def th_gF (q : th_q3) (i : Nat) : Int32 := if i < th_dG q then th_fi (th_wa q i) else nI 0
/-- how many sums a growth proof has -/
def th_gR (q : th_q3) : Nat := if (th_wa q (th_dG q)).1 = 0 then th_dG q else th_dG q + 1
theorem th_stop {P : th_q3 → Bool} {n : Nat} {q : th_q3} (h : th_in3 n q) (hq : q.2.1 ≤ 128) (hP : ∀ z : th_q3, P z = false → z.2.2 < z.2.1 → 2 ≤ z.2.1) {i : Nat} (hi : i ≤ 7) (hj : ∀ j, j < i → P (th_wa q j) = false) : th_in3 n (th_wa q i) ∧ (th_wa q i).2.1 ≤ 2 ^ (7 - i) ∧ (∀ j, j < i → 2 ≤ (th_wa q j).2.1) ∧ (P (th_wa q i) = false → i < 7 ∧ 2 ≤ (th_wa q i).2.1) := by
  have h2 : ∀ k, k ≤ i → ∀ j, j < k → 2 ≤ (th_wa q j).2.1 := by
    intro k
    induction k with
    | zero => intro _ j hj0; omega
    | succ k ih =>
      intro hk j hjk
      rcases Nat.lt_or_ge j k with c | c
      · exact ih (by omega) j c
      · obtain rfl : j = k := by omega
        have h3 := (th_wa_in h hq j (by omega) (ih (by omega))).1
        exact hP _ (hj j (by omega)) h3.1
  have h4 := th_wa_in h hq i hi (h2 i (Nat.le_refl i))
  refine ⟨h4.1, h4.2, h2 i (Nat.le_refl i), fun hs => ?_⟩
  have h5 := hP _ hs h4.1.1
  exact ⟨th_wa_7 h hq hi (h2 i (Nat.le_refl i)) h5, h5⟩
theorem th_sL2 : ∀ z : th_q3, th_sL z = false → z.2.2 < z.2.1 → 2 ≤ z.2.1 := fun z h _ => by
  have := of_decide_eq_false h
  omega
theorem th_sG2 : ∀ z : th_q3, th_sG z = false → z.2.2 < z.2.1 → 2 ≤ z.2.1 := fun z h h2 => by
  have := of_decide_eq_false h
  omega
theorem th_gw1 {q : th_q3} {i : Nat} {fr le fi : Nat → Int32} (hd : th_dG q = i) (h : th_RW fr le fi (fun i => th_bf (th_wa q i)) (fun i => th_bn (th_wa q i)) (fun i => th_fi (th_wa q i)) i) : th_RW fr le fi (th_gB q) (th_gL q) (th_gF q) i := by
  intro j hj
  unfold th_gB th_gL th_gF
  rw [hd, if_pos hj, if_pos hj, if_pos hj]
  exact h j hj
theorem th_gw2 {q : th_q3} {i : Nat} {fr le fi : Nat → Int32} (hd : th_dG q = i) (h : th_RW fr le fi (fun i => th_bf (th_wa q i)) (fun i => th_bn (th_wa q i)) (fun i => th_fi (th_wa q i)) i) : th_RW (upd fr i (nI (th_wa q i).1)) (upd le i (nI (th_wa q i).2.1)) (upd fi i (nI 0)) (th_gB q) (th_gL q) (th_gF q) (i + 1) := by
  refine th_RW_s (th_gw1 hd h) ?_ ?_ ?_
  · unfold th_gB; rw [hd, if_neg (Nat.lt_irrefl i)]
  · unfold th_gL; rw [hd, if_neg (Nat.lt_irrefl i)]
  · unfold th_gF; rw [hd, if_neg (Nat.lt_irrefl i)]
end
section
/-! proofs: the rows of a way, and what is worked out from a row of sums -/
theorem th_least {P : th_q3 → Bool} {n : Nat} {q : th_q3} (h : th_in3 n q) (hq : q.2.1 ≤ 128) (hP : ∀ z : th_q3, P z = false → z.2.2 < z.2.1 → 2 ≤ z.2.1) : th_dF P 8 q ≤ 7 ∧ P (th_wa q (th_dF P 8 q)) = true ∧ ∀ j, j < th_dF P 8 q → P (th_wa q j) = false := by
  have hex : ∃ k, P (th_wa q k) = true := by
    rcases Classical.em (∃ k, P (th_wa q k) = true) with c | c
    · exact c
    · have hall : ∀ j, P (th_wa q j) = false := fun j => by
        cases hh : P (th_wa q j) with
        | false => rfl
        | true => exact absurd ⟨j, hh⟩ c
      have h7 := (th_stop h hq hP (Nat.le_refl 7) (fun j _ => hall j)).2.2.2 (hall 7)
      omega
  obtain ⟨d, hd1, hd2⟩ := pk_least _ hex
  have hd3 : ∀ j, j < d → P (th_wa q j) = false := fun j hj => by
    cases hh : P (th_wa q j) with
    | false => rfl
    | true => exact absurd hh (hd2 j hj)
  have hd7 : d ≤ 7 := by
    rcases Nat.lt_or_ge 7 d with c | c
    · have h7 := (th_stop h hq hP (Nat.le_refl 7) (fun j hj => hd3 j (by omega))).2.2.2 (hd3 7 c)
      omega
    · exact c
  rw [th_dF_eq P 8 d q (by omega) hd1 hd3]
  exact ⟨hd7, hd1, hd3⟩
theorem th_rowsP {P : th_q3 → Bool} {n : Nat} {q : th_q3} (h : th_in3 n q) (hq : q.2.1 ≤ 128) (hP : ∀ z : th_q3, P z = false → z.2.2 < z.2.1 → 2 ≤ z.2.1) {d i : Nat} (hd : d ≤ 7) (hj : ∀ j, j < d → P (th_wa q j) = false) (hi : i < d) : th_al (th_bf (th_wa q i)) (th_bn (th_wa q i)) ∧ th_bf (th_wa q i) + th_bn (th_wa q i) ≤ n ∧ 1 ≤ th_bn (th_wa q i) := by
  obtain ⟨k1, k2, k3, k4⟩ := th_stop h hq hP (show i ≤ 7 by omega) (fun j hj' => hj j (by omega))
  obtain ⟨k5, k6⟩ := k4 (hj i hi)
  have h3 := th_in3_s (k := 7 - (i + 1)) k1 k6 (by rw [show 7 - (i + 1) + 1 = 7 - i by omega]; exact k2)
  exact ⟨h3.2.2.1, h3.2.2.2.1, h3.2.2.2.2⟩
theorem th_rowsL {n : Nat} {q : th_q3} (h : th_in3 n q) (hq : q.2.1 ≤ 128) : th_dL q ≤ 7 ∧ ∀ i, i < th_dL q → th_al (th_B q i) (th_L q i) ∧ th_B q i + th_L q i ≤ n := by
  obtain ⟨h1, -, h3⟩ := th_least h hq th_sL2
  exact ⟨h1, fun i hi => ⟨(th_rowsP h hq th_sL2 h1 h3 hi).1, (th_rowsP h hq th_sL2 h1 h3 hi).2.1⟩⟩
theorem th_rowsG {n : Nat} {q : th_q3} (h : th_in3 n q) (hq : q.2.1 ≤ 128) : th_gR q ≤ 8 ∧ th_dG q ≤ 7 ∧ ∀ i, i < th_gR q → th_al (th_gB q i) (th_gL q i) ∧ th_gB q i + th_gL q i ≤ n := by
  obtain ⟨h1, h2, h3⟩ := th_least h hq th_sG2
  have e : th_dF th_sG 8 q = th_dG q := rfl
  rw [e] at h1 h2 h3
  refine ⟨?_, h1, fun i hi => ?_⟩
  · unfold th_gR; split <;> omega
  · unfold th_gB th_gL
    rcases Nat.lt_or_ge i (th_dG q) with c | c
    · rw [if_pos c, if_pos c]
      exact ⟨(th_rowsP h hq th_sG2 h1 h3 c).1, (th_rowsP h hq th_sG2 h1 h3 c).2.1⟩
    · have hi2 : i = th_dG q := by
        unfold th_gR at hi
        split at hi <;> omega
      rw [if_neg (by omega), if_neg (by omega), hi2]
      have k := (th_stop h hq th_sG2 h1 h3).1
      exact ⟨k.2.2, k.2.1⟩
theorem th_F01 (q : th_q3) (i : Nat) : th_F q i = 0 ∨ th_F q i = 1 := th_fi01 _
theorem th_gF01 (q : th_q3) (i : Nat) : th_gF q i = 0 ∨ th_gF q i = 1 := by
  unfold th_gF; split
  · exact th_fi01 _
  · exact Or.inl rfl
/-- the sums of a proof: the last row's root first -/
def th_pS (f : Nat → Int32) (B N : Nat → Nat) (R j : Nat) : Int32 := th_rt f (B (R - 1 - j)) (N (R - 1 - j))
/-- what is worked out from the sums, k of them from k0 on -/
def th_fd (R : Nat) (Fi ds : Nat → Int32) (k0 : Nat) (x : Int32) : Nat → Int32
  | 0 => x
  | k + 1 => if Fi (R - 1 - (k0 + k)) = 0 then th_mx (th_fd R Fi ds k0 x k) (ds (k0 + k)) else th_mx (ds (k0 + k)) (th_fd R Fi ds k0 x k)
def th_fo (R : Nat) (Fi ds : Nat → Int32) (k0 : Nat) (x : Int32) : Nat → Int32
  | 0 => x
  | k + 1 => if Fi (R - 1 - (k0 + k)) = 0 then th_fo R Fi ds k0 x k else th_mx (ds (k0 + k)) (th_fo R Fi ds k0 x k)
/-! the map: the levels of its sums -/
def th_lv (kv : Nat → Int32) : Nat → Nat → Int32
  | 0, i => th_ks (kv i)
  | L + 1, i => th_jn (th_lv kv L (2 * i)) (th_lv kv L (2 * i + 1))
def th_MI (kv ks : Nat → Int32) : Prop := ∀ L i : Nat, L ≤ 6 → i < 64 / 2 ^ L → ks (64 / 2 ^ L + i) = th_lv kv L i
theorem th_lv_ne (kv : Nat → Int32) (key : Nat) (v : Int32) : ∀ L i : Nat, i ≠ key / 2 ^ L → th_lv (upd kv key v) L i = th_lv kv L i := by
  intro L
  induction L with
  | zero =>
    intro i h
    rw [Nat.pow_zero, Nat.div_one] at h
    unfold th_lv
    rw [pk_un h]
  | succ L ih =>
    intro i h
    have e : key / 2 ^ (L + 1) = key / 2 ^ L / 2 := by rw [Nat.pow_succ, Nat.div_div_eq_div_mul]
    rw [e] at h
    show th_jn _ _ = th_jn _ _
    rw [ih (2 * i) (by omega), ih (2 * i + 1) (by omega)]
/-- the sums of the map while a key's way is renewed: up to level v -/
def th_MJ (kv ks : Nat → Int32) (key v : Nat) : Prop := ∀ L i : Nat, L ≤ 6 → i < 64 / 2 ^ L → (L ≤ v ∨ i ≠ key / 2 ^ L) → ks (64 / 2 ^ L + i) = th_lv kv L i
theorem th_MJ_0 {kv ks : Nat → Int32} {key : Nat} (v : Int32) (hk : key < 64) (h : th_MI kv ks) : th_MJ (upd kv key v) (upd ks (64 + key) (th_ks v)) key 0 := by
  intro L i hL hi hc
  by_cases hx : 64 / 2 ^ L + i = 64 + key
  · have hL0 : L = 0 := by
      rcases (show L = 0 ∨ L = 1 ∨ L = 2 ∨ L = 3 ∨ L = 4 ∨ L = 5 ∨ L = 6 by omega) with rfl | rfl | rfl | rfl | rfl | rfl | rfl <;> first | rfl | (exfalso; simp only [Nat.reducePow, Nat.reduceDiv] at hx hi; omega)
    subst hL0
    have hi2 : i = key := by simp only [Nat.pow_zero, Nat.div_one] at hx; omega
    subst hi2
    rw [hx, pk_us]
    unfold th_lv
    rw [pk_us]
  · rw [pk_un hx, h L i hL hi]
    refine (th_lv_ne kv key v L i ?_).symm
    rcases hc with hc | hc
    · obtain rfl : L = 0 := by omega
      simp only [Nat.pow_zero, Nat.div_one] at hx ⊢
      omega
    · exact hc
theorem th_MJ_s {kv ks : Nat → Int32} {key v q : Nat} (hk : key < 64) (hv : v < 6) (h : th_MJ kv ks key v) (hq : q = (64 + key) / 2 ^ v) : th_MJ kv (upd ks (q / 2) (th_jn (ks (2 * (q / 2))) (ks (2 * (q / 2) + 1)))) key (v + 1) ∧ q / 2 = (64 + key) / 2 ^ (v + 1) ∧ q < 128 ∧ 1 ≤ q / 2 := by
  have e1 : q / 2 = (64 + key) / 2 ^ (v + 1) := by rw [hq, Nat.div_div_eq_div_mul, Nat.pow_succ]
  have e2 : q < 128 ∧ 1 ≤ q / 2 ∧ q / 2 = 64 / 2 ^ (v + 1) + key / 2 ^ (v + 1) ∧ 2 * (q / 2) = 64 / 2 ^ v + 2 * (key / 2 ^ (v + 1)) ∧ key / 2 ^ (v + 1) < 64 / 2 ^ (v + 1) ∧ 2 * (key / 2 ^ (v + 1)) + 1 < 64 / 2 ^ v := by
    rcases (show v = 0 ∨ v = 1 ∨ v = 2 ∨ v = 3 ∨ v = 4 ∨ v = 5 by omega) with rfl | rfl | rfl | rfl | rfl | rfl <;> simp only [Nat.reducePow, Nat.reduceAdd, Nat.reduceDiv] at hq ⊢ <;> omega
  obtain ⟨h1, h2, h3, h4, h5, h6⟩ := e2
  refine ⟨?_, e1, h1, h2⟩
  intro L i hL hi hc
  by_cases hx : 64 / 2 ^ L + i = q / 2
  · have hL1 : L = v + 1 := by
      rw [h3] at hx
      rcases (show v = 0 ∨ v = 1 ∨ v = 2 ∨ v = 3 ∨ v = 4 ∨ v = 5 by omega) with rfl | rfl | rfl | rfl | rfl | rfl <;>
        rcases (show L = 0 ∨ L = 1 ∨ L = 2 ∨ L = 3 ∨ L = 4 ∨ L = 5 ∨ L = 6 by omega) with rfl | rfl | rfl | rfl | rfl | rfl | rfl <;>
        first | rfl | (exfalso; simp only [Nat.reducePow, Nat.reduceAdd, Nat.reduceDiv] at hx hi h5; omega)
    subst hL1
    have hi2 : i = key / 2 ^ (v + 1) := by omega
    subst hi2
    rw [hx, pk_us, h4, Nat.add_assoc, h v _ (by omega) (by omega) (Or.inl (Nat.le_refl v)), h v _ (by omega) h6 (Or.inl (Nat.le_refl v))]
    rfl
  · rw [pk_un hx]
    refine h L i hL hi ?_
    rcases hc with hc | hc
    · rcases Nat.lt_or_ge v L with c | c
      · obtain rfl : L = v + 1 := by omega
        refine Or.inr (fun z => hx ?_)
        rw [h3, z]
      · exact Or.inl c
    · exact Or.inr hc
theorem th_MJ_e {kv ks : Nat → Int32} {key v : Nat} (hv : 6 ≤ v) (h : th_MJ kv ks key v) : th_MI kv ks := fun L i hL hi => h L i hL hi (Or.inl (by omega))
theorem th_xor1 : ∀ a, a < 128 → nI a ^^^ nI 1 = nI (a ^^^ 1) := by decide +kernel
theorem th_xorK : ∀ key, key < 64 → ∀ L, L < 6 → (64 + key) / 2 ^ L ^^^ 1 = 64 / 2 ^ L + (key / 2 ^ L ^^^ 1) ∧ (key / 2 ^ L ^^^ 1) < 64 / 2 ^ L := by decide +kernel
theorem th_ext2 {α : Type} {f g : Nat → α} {n : Nat} (h : ∀ i, i < n → f i = g i) (x : α → Prop) : (∀ i, i < n → x (f i)) ↔ ∀ i, i < n → x (g i) := ⟨fun k i hi => h i hi ▸ k i hi, fun k i hi => (h i hi).symm ▸ k i hi⟩
/-- 1 if so, else 0 -/
noncomputable def th_b (P : Prop) : Int32 := @ite _ P (Classical.propDecidable P) (nI 1) (nI 0)
theorem th_bT {P : Prop} (h : P) : th_b P = nI 1 := @if_pos _ (Classical.propDecidable P) h _ _ _
theorem th_bF {P : Prop} (h : ¬ P) : th_b P = nI 0 := @if_neg _ (Classical.propDecidable P) h _ _ _
theorem th_b01 (P : Prop) : th_b P = 0 ∨ th_b P = 1 := by
  rcases Classical.em P with h | h
  · exact Or.inr (th_bT h)
  · exact Or.inl (th_bF h)
def th_kf (key : Nat) (ds : Nat → Int32) (x : Int32) : Nat → Int32
  | 0 => x
  | k + 1 => if key / 2 ^ k % 2 = 1 then th_jn (ds k) (th_kf key ds x k) else th_jn (th_kf key ds x k) (ds k)
/-- a leaf's proof is accepted -/
def th_aL (q : th_q3) (cnt : Nat) (ds : Nat → Int32) (x root : Int32) : Prop := cnt = th_dL q ∧ th_fd (th_dL q) (th_F q) ds 0 x (th_dL q) = root
/-- a growth proof is accepted -/
def th_aG (q : th_q3) (cnt : Nat) (ds : Nat → Int32) (old root : Int32) : Prop := cnt = th_gR q ∧ ((th_wa q (th_dG q)).1 = 0 → th_fo (th_gR q) (th_gF q) ds 0 old (th_gR q) = old ∧ th_fd (th_gR q) (th_gF q) ds 0 old (th_gR q) = root) ∧ ((th_wa q (th_dG q)).1 ≠ 0 → th_fo (th_gR q) (th_gF q) ds 1 (ds 0) (th_gR q - 1) = old ∧ th_fd (th_gR q) (th_gF q) ds 1 (ds 0) (th_gR q - 1) = root)
theorem th_fd_s {R : Nat} {Fi ds : Nat → Int32} {k0 k : Nat} {x y : Int32} (hx : y = th_fd R Fi ds k0 x k) : (Fi (R - 1 - (k0 + k)) = 0 → th_mx y (ds (k0 + k)) = th_fd R Fi ds k0 x (k + 1)) ∧ (¬ Fi (R - 1 - (k0 + k)) = 0 → th_mx (ds (k0 + k)) y = th_fd R Fi ds k0 x (k + 1)) := by
  subst hx
  exact ⟨fun h => (if_pos h).symm, fun h => (if_neg h).symm⟩
theorem th_fo_s {R : Nat} {Fi ds : Nat → Int32} {k0 k : Nat} {x y : Int32} (hx : y = th_fo R Fi ds k0 x k) : (Fi (R - 1 - (k0 + k)) = 0 → y = th_fo R Fi ds k0 x (k + 1)) ∧ (¬ Fi (R - 1 - (k0 + k)) = 0 → th_mx (ds (k0 + k)) y = th_fo R Fi ds k0 x (k + 1)) := by
  subst hx
  exact ⟨fun h => (if_pos h).symm, fun h => (if_neg h).symm⟩
end
section
theorem th_gwF {n : Nat} {q : th_q3} (h : th_in3 n q) (hq : q.2.1 ≤ 128) : (th_wa q (th_dG q)).1 + (th_wa q (th_dG q)).2.1 ≤ n := by
  obtain ⟨h1, -, h3⟩ := th_least h hq th_sG2
  exact (th_stop h hq th_sG2 h1 h3).1.2.1
end
section
set_option maxRecDepth 100000 in
set_option maxHeartbeats 4000000 in
theorem c_X5_leafSum (l : Launch) (Y : th_Y) (H : Heap) (v : Int32) : th_P l Y yX5_leafSum cX5_leafSum 1 (some .int) (th_rm 0 0 0) [.int v] H (fun r9 => r9 = some (.int (th_ls v))) := by
  refine th_M.intro (by decide) (Nat.le_of_ble_eq_true rfl) ?_
  intro p e s m args below meth c ls Q hQ C hKN hl hS
  obtain ⟨hx, hb, hr, hml, hown, hts, hlk, hnm⟩ := C
  obtain ⟨hK, hN⟩ := hKN
  have hown : s.vm.findClass RX5 = some m.cls := hown
  have hl : lv_has ls 1 [(0, .int v)] := hl
  refine lv_ldc2 hx hb hown (hts _ tw_2_53) dX5_leafSum_0 ?_
  refine lv_iload_n hx hb dX5_leafSum_3 rfl (lv_at hl 0 rfl) ?_
  refine lv_i2l hx hb dX5_leafSum_4 rfl ?_
  refine lv_lmul hx hb dX5_leafSum_5 ?_
  refine lv_ldc2 hx hb hown (hts _ tw_2_54) dX5_leafSum_6 ?_
  refine lv_ladd hx hb dX5_leafSum_9 ?_
  refine lv_ldc2 hx hb hown (hts _ tw_2_55) dX5_leafSum_10 ?_
  refine lv_lrem hx hb dX5_leafSum_13 (by decide) ?_
  refine lv_l2i hx hb dX5_leafSum_14 rfl ?_
  refine th_iret hx hb hr hlk hQ hS dX5_leafSum_15 (Nat.le_of_ble_eq_true rfl) (Nat.le_of_ble_eq_true rfl) ?_
  exact ⟨rfl, rfl⟩

set_option maxRecDepth 100000 in
set_option maxHeartbeats 4000000 in
theorem c_X5_mix (l : Launch) (Y : th_Y) (H : Heap) (a b : Int32) : th_P l Y yX5_mix cX5_mix 2 (some .int) (th_rm 0 0 0) [.int a, .int b] H (fun r9 => r9 = some (.int (th_mx a b))) := by
  refine th_M.intro (by decide) (Nat.le_of_ble_eq_true rfl) ?_
  intro p e s m args below meth c ls Q hQ C hKN hl hS
  obtain ⟨hx, hb, hr, hml, hown, hts, hlk, hnm⟩ := C
  obtain ⟨hK, hN⟩ := hKN
  have hown : s.vm.findClass RX5 = some m.cls := hown
  have hl : lv_has ls 2 [(0, .int a), (1, .int b)] := hl
  refine lv_ldc2 hx hb hown (hts _ tw_2_59) dX5_mix_0 ?_
  refine lv_iload_n hx hb dX5_mix_3 rfl (lv_at hl 0 rfl) ?_
  refine lv_i2l hx hb dX5_mix_4 rfl ?_
  refine lv_lmul hx hb dX5_mix_5 ?_
  refine lv_ldc2 hx hb hown (hts _ tw_2_60) dX5_mix_6 ?_
  refine lv_iload_n hx hb dX5_mix_9 rfl (lv_at hl 1 rfl) ?_
  refine lv_i2l hx hb dX5_mix_10 rfl ?_
  refine lv_lmul hx hb dX5_mix_11 ?_
  refine lv_ladd hx hb dX5_mix_12 ?_
  refine lv_ldc2 hx hb hown (hts _ tw_2_61) dX5_mix_13 ?_
  refine lv_ladd hx hb dX5_mix_16 ?_
  refine lv_ldc2 hx hb hown (hts _ tw_2_55) dX5_mix_17 ?_
  refine lv_lrem hx hb dX5_mix_20 (by decide) ?_
  refine lv_l2i hx hb dX5_mix_21 rfl ?_
  refine th_iret hx hb hr hlk hQ hS dX5_mix_22 (Nat.le_of_ble_eq_true rfl) (Nat.le_of_ble_eq_true rfl) ?_
  exact ⟨rfl, rfl⟩

set_option maxRecDepth 100000 in
set_option maxHeartbeats 4000000 in
theorem c_X5_keySum (l : Launch) (Y : th_Y) (H : Heap) (v : Int32) : th_P l Y yX5_keySum cX5_keySum 1 (some .int) (th_rm 1 0 0) [.int v] H (fun r9 => r9 = some (.int (th_ks v))) := by
  refine th_M.intro (by decide) (Nat.le_of_ble_eq_true rfl) ?_
  intro p e s m args below meth c ls Q hQ C hKN hl hS
  obtain ⟨hx, hb, hr, hml, hown, hts, hlk, hnm⟩ := C
  obtain ⟨hK, hN⟩ := hKN
  have hown : s.vm.findClass RX5 = some m.cls := hown
  have hl : lv_has ls 1 [(0, .int v)] := hl
  refine lv_iload_n hx hb dX5_keySum_0 rfl (lv_at hl 0 rfl) ?_
  refine lv_iconst (v := -1) hx hb dX5_keySum_1 (by decide) ?_
  refine lv_icmp_ne (tgt := 9) hx hb dX5_keySum_2 (by decide) (fun c_1 => ?_) (fun c_1 => ?_)
  · skip
    refine lv_iload_n hx hb dX5_keySum_9 rfl (lv_at hl 0 rfl) ?_
    refine lv_iconst (v := nI 1) hx hb dX5_keySum_10 (by decide) ?_
    refine lv_iadd hx hb dX5_keySum_11 ?_
    refine th_callS hx hb hml hown hts ⟨hK, hN⟩ hl hS (rest := []) (c_X5_leafSum l Y _ (v + (nI 1))) ok_X5_leafSum tw_3_45 dX5_keySum_12 rfl rfl (Nat.le_of_ble_eq_true rfl) ⟨Nat.le_of_ble_eq_true rfl, Nat.le_of_ble_eq_true rfl⟩ ⟨Nat.le_of_ble_eq_true rfl, Nat.le_of_ble_eq_true rfl⟩ (fun _ h => h.elim) (th_kpi (fun locs hS => ?_))
    refine th_iret hx hb hr hlk hQ hS dX5_keySum_15 (Nat.le_of_ble_eq_true rfl) (Nat.le_of_ble_eq_true rfl) ?_
    exact ⟨by rw [th_ks, if_neg c_1] <;> rfl, rfl⟩
  refine lv_iconst (v := nI 0) hx hb dX5_keySum_5 (by decide) ?_
  refine lv_goto (tgt := 15) hx hb dX5_keySum_6 (by decide) ?_
  refine th_iret hx hb hr hlk hQ hS dX5_keySum_15 (Nat.le_of_ble_eq_true rfl) (Nat.le_of_ble_eq_true rfl) ?_
  exact ⟨by rw [th_ks, if_pos c_1] <;> rfl, rfl⟩

set_option maxRecDepth 100000 in
set_option maxHeartbeats 4000000 in
theorem c_X5_mapMix (l : Launch) (Y : th_Y) (H : Heap) (a b : Int32) : th_P l Y yX5_mapMix cX5_mapMix 2 (some .int) (th_rm 1 0 0) [.int a, .int b] H (fun r9 => r9 = some (.int (th_jn a b))) := by
  refine th_M.intro (by decide) (Nat.le_of_ble_eq_true rfl) ?_
  intro p e s m args below meth c ls Q hQ C hKN hl hS
  obtain ⟨hx, hb, hr, hml, hown, hts, hlk, hnm⟩ := C
  obtain ⟨hK, hN⟩ := hKN
  have hown : s.vm.findClass RX5 = some m.cls := hown
  have hl : lv_has ls 2 [(0, .int a), (1, .int b)] := hl
  refine lv_iload_n hx hb dX5_mapMix_0 rfl (lv_at hl 0 rfl) ?_
  refine lv_if_ne (tgt := 12) hx hb dX5_mapMix_1 (by decide) (fun c_1 => ?_) (fun c_1 => ?_)
  · skip
    refine lv_iload_n hx hb dX5_mapMix_12 rfl (lv_at hl 0 rfl) ?_
    refine lv_iload_n hx hb dX5_mapMix_13 rfl (lv_at hl 1 rfl) ?_
    refine th_callS hx hb hml hown hts ⟨hK, hN⟩ hl hS (rest := []) (c_X5_mix l Y _ a b) ok_X5_mix tw_3_49 dX5_mapMix_14 rfl rfl (Nat.le_of_ble_eq_true rfl) ⟨Nat.le_of_ble_eq_true rfl, Nat.le_of_ble_eq_true rfl⟩ ⟨Nat.le_of_ble_eq_true rfl, Nat.le_of_ble_eq_true rfl⟩ (fun _ h => h.elim) (th_kpi (fun locs hS => ?_))
    refine th_iret hx hb hr hlk hQ hS dX5_mapMix_17 (Nat.le_of_ble_eq_true rfl) (Nat.le_of_ble_eq_true rfl) ?_
    exact ⟨by rw [th_jn, if_neg (fun z => c_1 z.1)], rfl⟩
  refine lv_iload_n hx hb dX5_mapMix_4 rfl (lv_at hl 1 rfl) ?_
  refine lv_if_ne (tgt := 12) hx hb dX5_mapMix_5 (by decide) (fun c_2 => ?_) (fun c_2 => ?_)
  · skip
    refine lv_iload_n hx hb dX5_mapMix_12 rfl (lv_at hl 0 rfl) ?_
    refine lv_iload_n hx hb dX5_mapMix_13 rfl (lv_at hl 1 rfl) ?_
    refine th_callS hx hb hml hown hts ⟨hK, hN⟩ hl hS (rest := []) (c_X5_mix l Y _ a b) ok_X5_mix tw_3_49 dX5_mapMix_14 rfl rfl (Nat.le_of_ble_eq_true rfl) ⟨Nat.le_of_ble_eq_true rfl, Nat.le_of_ble_eq_true rfl⟩ ⟨Nat.le_of_ble_eq_true rfl, Nat.le_of_ble_eq_true rfl⟩ (fun _ h => h.elim) (th_kpi (fun locs hS => ?_))
    refine th_iret hx hb hr hlk hQ hS dX5_mapMix_17 (Nat.le_of_ble_eq_true rfl) (Nat.le_of_ble_eq_true rfl) ?_
    exact ⟨by rw [th_jn, if_neg (fun z => c_2 z.2)], rfl⟩
  refine lv_iconst (v := nI 0) hx hb dX5_mapMix_8 (by decide) ?_
  refine lv_goto (tgt := 17) hx hb dX5_mapMix_9 (by decide) ?_
  refine th_iret hx hb hr hlk hQ hS dX5_mapMix_17 (Nat.le_of_ble_eq_true rfl) (Nat.le_of_ble_eq_true rfl) ?_
  exact ⟨by rw [th_jn, if_pos ⟨c_1, c_2⟩] <;> rfl, rfl⟩

set_option maxRecDepth 100000 in
set_option maxHeartbeats 4000000 in
theorem c_X6_leafSum (l : Launch) (Y : th_Y) (H : Heap) (v : Int32) : th_P l Y yX6_leafSum cX6_leafSum 1 (some .int) (th_rm 0 0 0) [.int v] H (fun r9 => r9 = some (.int (th_ls v))) := by
  refine th_M.intro (by decide) (Nat.le_of_ble_eq_true rfl) ?_
  intro p e s m args below meth c ls Q hQ C hKN hl hS
  obtain ⟨hx, hb, hr, hml, hown, hts, hlk, hnm⟩ := C
  obtain ⟨hK, hN⟩ := hKN
  have hown : s.vm.findClass RX6 = some m.cls := hown
  have hl : lv_has ls 1 [(0, .int v)] := hl
  refine lv_ldc2 hx hb hown (hts _ tw_4_40) dX6_leafSum_0 ?_
  refine lv_iload_n hx hb dX6_leafSum_3 rfl (lv_at hl 0 rfl) ?_
  refine lv_i2l hx hb dX6_leafSum_4 rfl ?_
  refine lv_lmul hx hb dX6_leafSum_5 ?_
  refine lv_ldc2 hx hb hown (hts _ tw_4_41) dX6_leafSum_6 ?_
  refine lv_ladd hx hb dX6_leafSum_9 ?_
  refine lv_ldc2 hx hb hown (hts _ tw_4_42) dX6_leafSum_10 ?_
  refine lv_lrem hx hb dX6_leafSum_13 (by decide) ?_
  refine lv_l2i hx hb dX6_leafSum_14 rfl ?_
  refine th_iret hx hb hr hlk hQ hS dX6_leafSum_15 (Nat.le_of_ble_eq_true rfl) (Nat.le_of_ble_eq_true rfl) ?_
  exact ⟨rfl, rfl⟩

set_option maxRecDepth 100000 in
set_option maxHeartbeats 4000000 in
theorem c_X6_mix (l : Launch) (Y : th_Y) (H : Heap) (a b : Int32) : th_P l Y yX6_mix cX6_mix 2 (some .int) (th_rm 0 0 0) [.int a, .int b] H (fun r9 => r9 = some (.int (th_mx a b))) := by
  refine th_M.intro (by decide) (Nat.le_of_ble_eq_true rfl) ?_
  intro p e s m args below meth c ls Q hQ C hKN hl hS
  obtain ⟨hx, hb, hr, hml, hown, hts, hlk, hnm⟩ := C
  obtain ⟨hK, hN⟩ := hKN
  have hown : s.vm.findClass RX6 = some m.cls := hown
  have hl : lv_has ls 2 [(0, .int a), (1, .int b)] := hl
  refine lv_ldc2 hx hb hown (hts _ tw_4_46) dX6_mix_0 ?_
  refine lv_iload_n hx hb dX6_mix_3 rfl (lv_at hl 0 rfl) ?_
  refine lv_i2l hx hb dX6_mix_4 rfl ?_
  refine lv_lmul hx hb dX6_mix_5 ?_
  refine lv_ldc2 hx hb hown (hts _ tw_4_47) dX6_mix_6 ?_
  refine lv_iload_n hx hb dX6_mix_9 rfl (lv_at hl 1 rfl) ?_
  refine lv_i2l hx hb dX6_mix_10 rfl ?_
  refine lv_lmul hx hb dX6_mix_11 ?_
  refine lv_ladd hx hb dX6_mix_12 ?_
  refine lv_ldc2 hx hb hown (hts _ tw_4_48) dX6_mix_13 ?_
  refine lv_ladd hx hb dX6_mix_16 ?_
  refine lv_ldc2 hx hb hown (hts _ tw_4_42) dX6_mix_17 ?_
  refine lv_lrem hx hb dX6_mix_20 (by decide) ?_
  refine lv_l2i hx hb dX6_mix_21 rfl ?_
  refine th_iret hx hb hr hlk hQ hS dX6_mix_22 (Nat.le_of_ble_eq_true rfl) (Nat.le_of_ble_eq_true rfl) ?_
  exact ⟨rfl, rfl⟩

set_option maxRecDepth 100000 in
set_option maxHeartbeats 4000000 in
theorem c_X6_keySum (l : Launch) (Y : th_Y) (H : Heap) (v : Int32) : th_P l Y yX6_keySum cX6_keySum 1 (some .int) (th_rm 1 0 0) [.int v] H (fun r9 => r9 = some (.int (th_ks v))) := by
  refine th_M.intro (by decide) (Nat.le_of_ble_eq_true rfl) ?_
  intro p e s m args below meth c ls Q hQ C hKN hl hS
  obtain ⟨hx, hb, hr, hml, hown, hts, hlk, hnm⟩ := C
  obtain ⟨hK, hN⟩ := hKN
  have hown : s.vm.findClass RX6 = some m.cls := hown
  have hl : lv_has ls 1 [(0, .int v)] := hl
  refine lv_iload_n hx hb dX6_keySum_0 rfl (lv_at hl 0 rfl) ?_
  refine lv_iconst (v := -1) hx hb dX6_keySum_1 (by decide) ?_
  refine lv_icmp_ne (tgt := 9) hx hb dX6_keySum_2 (by decide) (fun c_1 => ?_) (fun c_1 => ?_)
  · skip
    refine lv_iload_n hx hb dX6_keySum_9 rfl (lv_at hl 0 rfl) ?_
    refine lv_iconst (v := nI 1) hx hb dX6_keySum_10 (by decide) ?_
    refine lv_iadd hx hb dX6_keySum_11 ?_
    refine th_callS hx hb hml hown hts ⟨hK, hN⟩ hl hS (rest := []) (c_X6_leafSum l Y _ (v + (nI 1))) ok_X6_leafSum tw_4_37 dX6_keySum_12 rfl rfl (Nat.le_of_ble_eq_true rfl) ⟨Nat.le_of_ble_eq_true rfl, Nat.le_of_ble_eq_true rfl⟩ ⟨Nat.le_of_ble_eq_true rfl, Nat.le_of_ble_eq_true rfl⟩ (fun _ h => h.elim) (th_kpi (fun locs hS => ?_))
    refine th_iret hx hb hr hlk hQ hS dX6_keySum_15 (Nat.le_of_ble_eq_true rfl) (Nat.le_of_ble_eq_true rfl) ?_
    exact ⟨by rw [th_ks, if_neg c_1] <;> rfl, rfl⟩
  refine lv_iconst (v := nI 0) hx hb dX6_keySum_5 (by decide) ?_
  refine lv_goto (tgt := 15) hx hb dX6_keySum_6 (by decide) ?_
  refine th_iret hx hb hr hlk hQ hS dX6_keySum_15 (Nat.le_of_ble_eq_true rfl) (Nat.le_of_ble_eq_true rfl) ?_
  exact ⟨by rw [th_ks, if_pos c_1] <;> rfl, rfl⟩

set_option maxRecDepth 100000 in
set_option maxHeartbeats 4000000 in
theorem c_X6_join (l : Launch) (Y : th_Y) (H : Heap) (a b : Int32) : th_P l Y yX6_join cX6_join 2 (some .int) (th_rm 1 0 0) [.int a, .int b] H (fun r9 => r9 = some (.int (th_jn a b))) := by
  refine th_M.intro (by decide) (Nat.le_of_ble_eq_true rfl) ?_
  intro p e s m args below meth c ls Q hQ C hKN hl hS
  obtain ⟨hx, hb, hr, hml, hown, hts, hlk, hnm⟩ := C
  obtain ⟨hK, hN⟩ := hKN
  have hown : s.vm.findClass RX6 = some m.cls := hown
  have hl : lv_has ls 2 [(0, .int a), (1, .int b)] := hl
  refine lv_iload_n hx hb dX6_join_0 rfl (lv_at hl 0 rfl) ?_
  refine lv_if_ne (tgt := 12) hx hb dX6_join_1 (by decide) (fun c_1 => ?_) (fun c_1 => ?_)
  · skip
    refine lv_iload_n hx hb dX6_join_12 rfl (lv_at hl 0 rfl) ?_
    refine lv_iload_n hx hb dX6_join_13 rfl (lv_at hl 1 rfl) ?_
    refine th_callS hx hb hml hown hts ⟨hK, hN⟩ hl hS (rest := []) (c_X6_mix l Y _ a b) ok_X6_mix tw_4_43 dX6_join_14 rfl rfl (Nat.le_of_ble_eq_true rfl) ⟨Nat.le_of_ble_eq_true rfl, Nat.le_of_ble_eq_true rfl⟩ ⟨Nat.le_of_ble_eq_true rfl, Nat.le_of_ble_eq_true rfl⟩ (fun _ h => h.elim) (th_kpi (fun locs hS => ?_))
    refine th_iret hx hb hr hlk hQ hS dX6_join_17 (Nat.le_of_ble_eq_true rfl) (Nat.le_of_ble_eq_true rfl) ?_
    exact ⟨by rw [th_jn, if_neg (fun z => c_1 z.1)], rfl⟩
  refine lv_iload_n hx hb dX6_join_4 rfl (lv_at hl 1 rfl) ?_
  refine lv_if_ne (tgt := 12) hx hb dX6_join_5 (by decide) (fun c_2 => ?_) (fun c_2 => ?_)
  · skip
    refine lv_iload_n hx hb dX6_join_12 rfl (lv_at hl 0 rfl) ?_
    refine lv_iload_n hx hb dX6_join_13 rfl (lv_at hl 1 rfl) ?_
    refine th_callS hx hb hml hown hts ⟨hK, hN⟩ hl hS (rest := []) (c_X6_mix l Y _ a b) ok_X6_mix tw_4_43 dX6_join_14 rfl rfl (Nat.le_of_ble_eq_true rfl) ⟨Nat.le_of_ble_eq_true rfl, Nat.le_of_ble_eq_true rfl⟩ ⟨Nat.le_of_ble_eq_true rfl, Nat.le_of_ble_eq_true rfl⟩ (fun _ h => h.elim) (th_kpi (fun locs hS => ?_))
    refine th_iret hx hb hr hlk hQ hS dX6_join_17 (Nat.le_of_ble_eq_true rfl) (Nat.le_of_ble_eq_true rfl) ?_
    exact ⟨by rw [th_jn, if_neg (fun z => c_2 z.2)], rfl⟩
  refine lv_iconst (v := nI 0) hx hb dX6_join_8 (by decide) ?_
  refine lv_goto (tgt := 17) hx hb dX6_join_9 (by decide) ?_
  refine th_iret hx hb hr hlk hQ hS dX6_join_17 (Nat.le_of_ble_eq_true rfl) (Nat.le_of_ble_eq_true rfl) ?_
  exact ⟨by rw [th_jn, if_pos ⟨c_1, c_2⟩] <;> rfl, rfl⟩

set_option maxRecDepth 100000 in
set_option maxHeartbeats 4000000 in
theorem c_X2_greatestPowerBelow (l : Launch) (Y : th_Y) (H : Heap) (n : Nat) (h2 : 2 ≤ n) (hn : n ≤ 128) : th_P l Y yX2_greatestPowerBelow cX2_greatestPowerBelow 3 (some .int) (th_rm 0 0 0) [.int (nI n)] H (fun r9 => r9 = some (.int (nI (th_sp n)))) := by
  refine th_M.intro (by decide) (Nat.le_of_ble_eq_true rfl) ?_
  intro p e s m args below meth c ls Q hQ C hKN hl hS
  obtain ⟨hx, hb, hr, hml, hown, hts, hlk, hnm⟩ := C
  obtain ⟨hK, hN⟩ := hKN
  have hown : s.vm.findClass RX2 = some m.cls := hown
  have hl : lv_has ls 3 [(0, .int (nI n))] := hl
  refine lv_iconst (v := nI 1) hx hb dX2_greatestPowerBelow_0 (by decide) ?_
  refine lv_istore_n (lv' := [(1, .int (nI 1)), (0, .int (nI n))]) hx hb dX2_greatestPowerBelow_1 rfl hl (by decide) rfl (fun ls hl => ?_)
  refine lv_iconst (v := nI 0) hx hb dX2_greatestPowerBelow_2 (by decide) ?_
  refine lv_istore_n (lv' := [(2, .int (nI 0)), (1, .int (nI 1)), (0, .int (nI n))]) hx hb dX2_greatestPowerBelow_3 rfl hl (by decide) rfl (fun ls hl => ?_)
  have lp_1 : ∀ (n_2 : Nat) (pw : Nat) (lev : Nat) (locs : List Loc) (ls : Array Slot), 7 - lev < n_2 → (pw = 2 ^ lev) → (pw < n) → (lev ≤ 7) → va_S (th_no) H H locs → lv_has ls 3 [(0, .int (nI n)), (1, .int (nI pw)), (2, .int (nI lev))] → W p l e (th_rm 0 0 0) s m args below meth c H locs 0 0 Q (F0 m 4 ls []) := by
    intro n_2; induction n_2 with
    | zero => intros; exfalso; omega
    | succ n_2 ih =>
      intro pw lev locs ls hmz hpw hlt hlv hS hl
      refine lv_iload_n hx hb dX2_greatestPowerBelow_4 rfl (lv_at hl 2 rfl) ?_
      refine lv_bipush (v := nI 7) hx hb dX2_greatestPowerBelow_5 (by decide) ?_
      refine th_ige (tgt := 27) hx hb dX2_greatestPowerBelow_7 (by decide) (by omega) (by omega) (fun c_3 => by exfalso; have h9 := Nat.pow_le_pow_right (n := 2) (by decide) c_3; simp only [Nat.reducePow] at h9; omega) (fun c_3 => ?_)
      refine lv_iconst (v := nI 2) hx hb dX2_greatestPowerBelow_10 (by decide) ?_
      refine lv_iload_n hx hb dX2_greatestPowerBelow_11 rfl (lv_at hl 1 rfl) ?_
      refine lv_imul hx hb dX2_greatestPowerBelow_12 ?_
      refine th_ti (pk_mul _ _) ?_
      refine lv_iload_n hx hb dX2_greatestPowerBelow_13 rfl (lv_at hl 0 rfl) ?_
      refine th_ige (tgt := 27) hx hb dX2_greatestPowerBelow_14 (by decide) (by omega) (by omega) (fun c_4 => ?_) (fun c_4 => ?_)
      · skip
        refine lv_iload_n hx hb dX2_greatestPowerBelow_27 rfl (lv_at hl 1 rfl) ?_
        refine th_iret hx hb hr hlk hQ hS dX2_greatestPowerBelow_28 (Nat.le_of_ble_eq_true rfl) (Nat.le_of_ble_eq_true rfl) ?_
        exact ⟨congrArg (fun z => some (Value.int (nI z))) (by rw [hpw]; exact (th_sp_eq (by omega) (by rw [Nat.pow_succ]; omega)).symm), rfl⟩
      refine lv_iconst (v := nI 2) hx hb dX2_greatestPowerBelow_17 (by decide) ?_
      refine lv_iload_n hx hb dX2_greatestPowerBelow_18 rfl (lv_at hl 1 rfl) ?_
      refine lv_imul hx hb dX2_greatestPowerBelow_19 ?_
      refine th_ti (pk_mul _ _) ?_
      refine lv_istore_n (lv' := [(1, .int (nI (2 * pw))), (0, .int (nI n)), (2, .int (nI lev))]) hx hb dX2_greatestPowerBelow_20 rfl hl (by decide) rfl (fun ls hl => ?_)
      refine lv_iinc (v := nI (lev + 1)) (lv' := [(2, .int (nI (lev + 1))), (1, .int (nI (2 * pw))), (0, .int (nI n))]) hx hb dX2_greatestPowerBelow_21 hl (k := 2) rfl (nI_add _ 1) (by decide) rfl (fun ls hl => ?_)
      refine lv_goto (tgt := 4) hx hb dX2_greatestPowerBelow_24 (by decide) ?_
      exact ih (2 * pw) (lev + 1) _ _ (by omega) (by rw [Nat.pow_succ]; omega) (by omega) (by omega) hS (lv_sub hl [2, 1, 0] rfl)
  exact lp_1 ((7 - (0)) + 1) (1) (0) _ _ (Nat.lt_succ_self _) (rfl) (by omega) (by omega) hS (lv_sub hl [2, 1, 0] rfl)

set_option maxRecDepth 100000 in
set_option maxHeartbeats 4000000 in
theorem c_X6_split (l : Launch) (Y : th_Y) (H : Heap) (n : Nat) (h2 : 2 ≤ n) (hn : n ≤ 128) : th_P l Y yX6_split cX6_split 2 (some .int) (th_rm 0 0 0) [.int (nI n)] H (fun r9 => r9 = some (.int (nI (th_sp n)))) := by
  refine th_M.intro (by decide) (Nat.le_of_ble_eq_true rfl) ?_
  intro p e s m args below meth c ls Q hQ C hKN hl hS
  obtain ⟨hx, hb, hr, hml, hown, hts, hlk, hnm⟩ := C
  obtain ⟨hK, hN⟩ := hKN
  have hown : s.vm.findClass RX6 = some m.cls := hown
  have hl : lv_has ls 2 [(0, .int (nI n))] := hl
  refine lv_iconst (v := nI 1) hx hb dX6_split_0 (by decide) ?_
  refine lv_istore_n (lv' := [(1, .int (nI 1)), (0, .int (nI n))]) hx hb dX6_split_1 rfl hl (by decide) rfl (fun ls hl => ?_)
  have lp_1 : ∀ (n_2 : Nat) (pw : Nat) (lev : Nat) (locs : List Loc) (ls : Array Slot), n - pw < n_2 → (pw = 2 ^ lev) → (pw < n) → va_S (th_no) H H locs → lv_has ls 2 [(0, .int (nI n)), (1, .int (nI pw))] → W p l e (th_rm 0 0 0) s m args below meth c H locs 0 0 Q (F0 m 2 ls []) := by
    intro n_2; induction n_2 with
    | zero => intros; exfalso; omega
    | succ n_2 ih =>
      intro pw lev locs ls hmz hpw hlt hS hl
      have hp2 : 0 < 2 ^ lev := Nat.two_pow_pos lev
      refine lv_iconst (v := nI 2) hx hb dX6_split_2 (by decide) ?_
      refine lv_iload_n hx hb dX6_split_3 rfl (lv_at hl 1 rfl) ?_
      refine lv_imul hx hb dX6_split_4 ?_
      refine th_ti (pk_mul _ _) ?_
      refine lv_iload_n hx hb dX6_split_5 rfl (lv_at hl 0 rfl) ?_
      refine th_ige (tgt := 16) hx hb dX6_split_6 (by decide) (by omega) (by omega) (fun c_3 => ?_) (fun c_3 => ?_)
      · skip
        refine lv_iload_n hx hb dX6_split_16 rfl (lv_at hl 1 rfl) ?_
        refine th_iret hx hb hr hlk hQ hS dX6_split_17 (Nat.le_of_ble_eq_true rfl) (Nat.le_of_ble_eq_true rfl) ?_
        exact ⟨congrArg (fun z => some (Value.int (nI z))) (by rw [hpw]; exact (th_sp_eq (by omega) (by rw [Nat.pow_succ]; omega)).symm), rfl⟩
      refine lv_iload_n hx hb dX6_split_9 rfl (lv_at hl 1 rfl) ?_
      refine lv_iconst (v := nI 2) hx hb dX6_split_10 (by decide) ?_
      refine lv_imul hx hb dX6_split_11 ?_
      refine th_ti (pk_mul _ _) ?_
      refine lv_istore_n (lv' := [(1, .int (nI (pw * 2))), (0, .int (nI n))]) hx hb dX6_split_12 rfl hl (by decide) rfl (fun ls hl => ?_)
      refine lv_goto (tgt := 2) hx hb dX6_split_13 (by decide) ?_
      exact ih (pw * 2) (lev + 1) _ _ (by omega) (by rw [Nat.pow_succ]; omega) (by omega) hS (lv_sub hl [1, 0] rfl)
  exact lp_1 ((n - (1)) + 1) (1) (0) _ _ (Nat.lt_succ_self _) (rfl) (by omega) hS (lv_sub hl [1, 0] rfl)
end
section
set_option maxRecDepth 100000 in
set_option maxHeartbeats 4000000 in
theorem c_X2_blockAt (l : Launch) (Y : th_Y) (H : Heap) (v a b n : Nat) (f g : Nat → Int32) (hP : va_P Y.1 vwCl [(v, .inr (2, [.int (nI n), .ref a, .ref b])), (a, .inl (Y.2 0, 100, .inl f)), (b, .inl (Y.2 0, 256, .inl g))] H) (q : Nat) (hq : q < 256) : th_P l Y yX2_blockAt cX2_blockAt 2 (some .int) (th_rm 0 0 0) [.ref v, .int (nI q)] H (fun r9 => r9 = some (.int (g q))) := by
  refine th_M.intro (by decide) (Nat.le_of_ble_eq_true rfl) ?_
  intro p e s m args below meth c ls Q hQ C hKN hl hS
  obtain ⟨hx, hb, hr, hml, hown, hts, hlk, hnm⟩ := C
  obtain ⟨hK, hN⟩ := hKN
  have hown : s.vm.findClass RX2 = some m.cls := hown
  have hl : lv_has ls 2 [(0, .ref v), (1, .int (nI q))] := hl
  refine lv_iload_n hx hb dX2_blockAt_0 rfl (lv_at hl 1 rfl) ?_
  refine th_zlt (tgt := 22) hx hb dX2_blockAt_1 (by decide) (by omega) ?_
  refine lv_iload_n hx hb dX2_blockAt_4 rfl (lv_at hl 1 rfl) ?_
  refine lv_aload_n hx hb dX2_blockAt_5 rfl (lv_at hl 0 rfl) ?_
  refine va_get (D := Y.1) (ci := 2) (v := .ref b) (C := RX2) (T := TX2) (N := 3) hx hb hts inX2 hown hK hP 0 rfl rfl 2 (by decide) (hts _ tw_1_96) (fun _ h9 => h9) rfl dX2_blockAt_6 ?_
  refine va_alen (v := nI 256) hx hb hK hP 2 0 rfl rfl rfl dX2_blockAt_9 ?_
  refine th_ige (tgt := 22) hx hb dX2_blockAt_10 (by decide) (by omega) (by omega) (fun c_1 => by exfalso; omega) (fun c_1 => ?_)
  refine lv_aload_n hx hb dX2_blockAt_13 rfl (lv_at hl 0 rfl) ?_
  refine va_get (D := Y.1) (ci := 2) (v := .ref b) (C := RX2) (T := TX2) (N := 3) hx hb hts inX2 hown hK hP 0 rfl rfl 2 (by decide) (hts _ tw_1_96) (fun _ h9 => h9) rfl dX2_blockAt_14 ?_
  refine lv_iload_n hx hb dX2_blockAt_17 rfl (lv_at hl 1 rfl) ?_
  refine th_iald hx hb hK hP 2 rfl (j := q) (by omega) (by omega) dX2_blockAt_18 ?_
  refine lv_goto (tgt := 23) hx hb dX2_blockAt_19 (by decide) ?_
  refine th_iret hx hb hr hlk hQ hS dX2_blockAt_23 (Nat.le_of_ble_eq_true rfl) (Nat.le_of_ble_eq_true rfl) ?_
  exact ⟨rfl, rfl⟩

set_option maxRecDepth 100000 in
set_option maxHeartbeats 4000000 in
theorem c_X2_valueAt (l : Launch) (Y : th_Y) (H : Heap) (v a b n : Nat) (f g : Nat → Int32) (hP : va_P Y.1 vwCl [(v, .inr (2, [.int (nI n), .ref a, .ref b])), (a, .inl (Y.2 0, 100, .inl f)), (b, .inl (Y.2 0, 256, .inl g))] H) (q : Nat) (hq : q < n) (hn : n ≤ 100) : th_P l Y yX2_valueAt cX2_valueAt 2 (some .int) (th_rm 0 0 0) [.ref v, .int (nI q)] H (fun r9 => r9 = some (.int (f q))) := by
  refine th_M.intro (by decide) (Nat.le_of_ble_eq_true rfl) ?_
  intro p e s m args below meth c ls Q hQ C hKN hl hS
  obtain ⟨hx, hb, hr, hml, hown, hts, hlk, hnm⟩ := C
  obtain ⟨hK, hN⟩ := hKN
  have hown : s.vm.findClass RX2 = some m.cls := hown
  have hl : lv_has ls 2 [(0, .ref v), (1, .int (nI q))] := hl
  refine lv_iload_n hx hb dX2_valueAt_0 rfl (lv_at hl 1 rfl) ?_
  refine th_zlt (tgt := 30) hx hb dX2_valueAt_1 (by decide) (by omega) ?_
  refine lv_iload_n hx hb dX2_valueAt_4 rfl (lv_at hl 1 rfl) ?_
  refine lv_aload_n hx hb dX2_valueAt_5 rfl (lv_at hl 0 rfl) ?_
  refine va_get (D := Y.1) (ci := 2) (v := .int (nI n)) (C := RX2) (T := TX2) (N := 3) hx hb hts inX2 hown hK hP 0 rfl rfl 0 (by decide) (hts _ tw_1_92) (fun _ h9 => h9) rfl dX2_valueAt_6 ?_
  refine th_ige (tgt := 30) hx hb dX2_valueAt_9 (by decide) (by omega) (by omega) (fun c_1 => by exfalso; omega) (fun c_1 => ?_)
  refine lv_iload_n hx hb dX2_valueAt_12 rfl (lv_at hl 1 rfl) ?_
  refine lv_aload_n hx hb dX2_valueAt_13 rfl (lv_at hl 0 rfl) ?_
  refine va_get (D := Y.1) (ci := 2) (v := .ref a) (C := RX2) (T := TX2) (N := 3) hx hb hts inX2 hown hK hP 0 rfl rfl 1 (by decide) (hts _ tw_1_95) (fun _ h9 => h9) rfl dX2_valueAt_14 ?_
  refine va_alen (v := nI 100) hx hb hK hP 1 0 rfl rfl rfl dX2_valueAt_17 ?_
  refine th_ige (tgt := 30) hx hb dX2_valueAt_18 (by decide) (by omega) (by omega) (fun c_2 => by exfalso; omega) (fun c_2 => ?_)
  refine lv_aload_n hx hb dX2_valueAt_21 rfl (lv_at hl 0 rfl) ?_
  refine va_get (D := Y.1) (ci := 2) (v := .ref a) (C := RX2) (T := TX2) (N := 3) hx hb hts inX2 hown hK hP 0 rfl rfl 1 (by decide) (hts _ tw_1_95) (fun _ h9 => h9) rfl dX2_valueAt_22 ?_
  refine lv_iload_n hx hb dX2_valueAt_25 rfl (lv_at hl 1 rfl) ?_
  refine th_iald hx hb hK hP 1 rfl (j := q) (by omega) (by omega) dX2_valueAt_26 ?_
  refine lv_goto (tgt := 31) hx hb dX2_valueAt_27 (by decide) ?_
  refine th_iret hx hb hr hlk hQ hS dX2_valueAt_31 (Nat.le_of_ble_eq_true rfl) (Nat.le_of_ble_eq_true rfl) ?_
  exact ⟨rfl, rfl⟩

set_option maxRecDepth 100000 in
set_option maxHeartbeats 4000000 in
theorem c_X2_rootOfRow (l : Launch) (Y : th_Y) (H : Heap) (v a b n : Nat) (f g : Nat → Int32) (hP : va_P Y.1 vwCl [(v, .inr (2, [.int (nI n), .ref a, .ref b])), (a, .inl (Y.2 0, 100, .inl f)), (b, .inl (Y.2 0, 256, .inl g))] H) (a0 m0 : Nat) (hn : n ≤ 100) (hm : a0 + m0 ≤ n) (hB : th_BI f g n) (hal : th_al a0 m0) : th_P l Y yX2_rootOfRow cX2_rootOfRow 8 (some .int) (th_rm 1 0 0) [.ref v, .int (nI a0), .int (nI m0)] H (fun r9 => r9 = some (.int (th_rt f a0 m0))) := by
  refine th_M.intro (by decide) (Nat.le_of_ble_eq_true rfl) ?_
  intro p e s m args below meth c ls Q hQ C hKN hl hS
  obtain ⟨hx, hb, hr, hml, hown, hts, hlk, hnm⟩ := C
  obtain ⟨hK, hN⟩ := hKN
  have hown : s.vm.findClass RX2 = some m.cls := hown
  have hl : lv_has ls 8 [(0, .ref v), (1, .int (nI a0)), (2, .int (nI m0))] := hl
  refine lv_iload_n hx hb dX2_rootOfRow_0 rfl (lv_at hl 1 rfl) ?_
  refine th_zlt (tgt := 26) hx hb dX2_rootOfRow_1 (by decide) (by omega) ?_
  refine lv_iload_n hx hb dX2_rootOfRow_4 rfl (lv_at hl 2 rfl) ?_
  refine th_zlt (tgt := 26) hx hb dX2_rootOfRow_5 (by decide) (by omega) ?_
  refine lv_iload_n hx hb dX2_rootOfRow_8 rfl (lv_at hl 1 rfl) ?_
  refine lv_aload_n hx hb dX2_rootOfRow_9 rfl (lv_at hl 0 rfl) ?_
  refine va_get (D := Y.1) (ci := 2) (v := .int (nI n)) (C := RX2) (T := TX2) (N := 3) hx hb hts inX2 hown hK hP 0 rfl rfl 0 (by decide) (hts _ tw_1_92) (fun _ h9 => h9) rfl dX2_rootOfRow_10 ?_
  refine th_igt (tgt := 26) hx hb dX2_rootOfRow_13 (by decide) (by omega) (by omega) (fun c_1 => by exfalso; omega) (fun c_1 => ?_)
  refine lv_iload_n hx hb dX2_rootOfRow_16 rfl (lv_at hl 2 rfl) ?_
  refine lv_aload_n hx hb dX2_rootOfRow_17 rfl (lv_at hl 0 rfl) ?_
  refine va_get (D := Y.1) (ci := 2) (v := .int (nI n)) (C := RX2) (T := TX2) (N := 3) hx hb hts inX2 hown hK hP 0 rfl rfl 0 (by decide) (hts _ tw_1_92) (fun _ h9 => h9) rfl dX2_rootOfRow_18 ?_
  refine lv_iload_n hx hb dX2_rootOfRow_21 rfl (lv_at hl 1 rfl) ?_
  refine lv_isub hx hb dX2_rootOfRow_22 ?_
  refine th_ti (pk_sub (by omega)) ?_
  refine th_ile (tgt := 28) hx hb dX2_rootOfRow_23 (by decide) (by omega) (by omega) (fun c_2 => ?_) (fun c_2 => by exfalso; omega)
  refine lv_iconst (v := nI 0) hx hb dX2_rootOfRow_28 (by decide) ?_
  refine lv_istore_n (lv' := [(3, .int (nI 0)), (0, .ref v), (1, .int (nI a0)), (2, .int (nI m0))]) hx hb dX2_rootOfRow_29 rfl hl (by decide) rfl (fun ls hl => ?_)
  refine lv_iload_n hx hb dX2_rootOfRow_30 rfl (lv_at hl 2 rfl) ?_
  refine lv_iload_n hx hb dX2_rootOfRow_31 rfl (lv_at hl 3 rfl) ?_
  refine lv_iadd hx hb dX2_rootOfRow_32 ?_
  refine th_ti (nI_add _ _) ?_
  refine lv_istore (lv' := [(4, .int (nI (a0 + m0))), (3, .int (nI 0)), (0, .ref v), (1, .int (nI a0)), (2, .int (nI m0))]) hx hb dX2_rootOfRow_33 hl (by decide) rfl (fun ls hl => ?_)
  refine lv_iconst (v := nI 0) hx hb dX2_rootOfRow_35 (by decide) ?_
  refine lv_istore (lv' := [(5, .int (nI 0)), (4, .int (nI (a0 + m0))), (3, .int (nI 0)), (0, .ref v), (1, .int (nI a0)), (2, .int (nI m0))]) hx hb dX2_rootOfRow_36 hl (by decide) rfl (fun ls hl => ?_)
  have lp_3 : ∀ (n_4 : Nat) (ed : Nat) (root : Int32) (lev : Nat) (locs : List Loc) (ls : Array Slot), 7 - lev < n_4 → (lev ≤ 7) → (ed + m0 % 2 ^ lev = a0 + m0) → (root = th_rt f ed (m0 % 2 ^ lev)) → va_S (th_no) H H locs → lv_has ls 8 [(0, .ref v), (1, .int (nI a0)), (2, .int (nI m0)), (3, .int root), (4, .int (nI ed)), (5, .int (nI lev))] → W p l e (th_rm 1 0 0) s m args below meth c H locs 0 0 Q (F0 m 38 ls []) := by
    intro n_4; induction n_4 with
    | zero => intros; exfalso; omega
    | succ n_4 ih =>
      intro ed root lev locs ls hmz hlev he hroot hS hl
      have h2 : 2 ^ lev ≤ 128 := Nat.le_trans (Nat.pow_le_pow_right (n := 2) (by decide) hlev) (by decide)
      have h20 : 0 < 2 ^ lev := Nat.two_pow_pos lev
      have h3 : m0 / 2 ^ lev ≤ m0 := Nat.div_le_self _ _
      refine lv_iload hx hb dX2_rootOfRow_38 (lv_at hl 5 rfl) ?_
      refine lv_bipush (v := nI 7) hx hb dX2_rootOfRow_40 (by decide) ?_
      refine th_ige (tgt := 117) hx hb dX2_rootOfRow_42 (by decide) (by omega) (by omega) (fun c_5 => ?_) (fun c_5 => ?_)
      · skip
        refine lv_iload_n hx hb dX2_rootOfRow_117 rfl (lv_at hl 3 rfl) ?_
        refine th_iret hx hb hr hlk hQ hS dX2_rootOfRow_118 (Nat.le_of_ble_eq_true rfl) (Nat.le_of_ble_eq_true rfl) ?_
        obtain rfl : lev = 7 := by omega
        obtain rfl : ed = a0 := by simp only [Nat.reducePow] at he; omega
        exact ⟨by rw [hroot, Nat.mod_eq_of_lt (by simp only [Nat.reducePow]; omega)], rfl⟩
      refine lv_iload_n hx hb dX2_rootOfRow_45 rfl (lv_at hl 2 rfl) ?_
      refine lv_iload hx hb dX2_rootOfRow_46 (lv_at hl 5 rfl) ?_
      refine lv_ishr hx hb dX2_rootOfRow_48 ?_
      refine th_ti (show (nI m0) >>> ((nI lev) &&& 31) = nI (m0 / 2 ^ lev) from pk_shrN (by omega) _ lev (th_s5 lev (by omega))) ?_
      refine lv_iconst (v := nI 1) hx hb dX2_rootOfRow_49 (by decide) ?_
      refine lv_iand hx hb dX2_rootOfRow_50 ?_
      refine th_ti (show (nI (m0 / 2 ^ lev)) &&& (nI 1) = nI (m0 / 2 ^ lev % 2) from pk_andN (by omega) 1 (by decide)) ?_
      refine lv_iconst (v := nI 1) hx hb dX2_rootOfRow_51 (by decide) ?_
      refine th_ine (tgt := 111) hx hb dX2_rootOfRow_52 (by decide) (by omega) (by omega) (fun c_6 => ?_) (fun c_6 => ?_)
      · skip
        refine lv_iinc (v := nI (lev + 1)) (lv' := [(5, .int (nI (lev + 1))), (0, .ref v), (1, .int (nI a0)), (2, .int (nI m0)), (3, .int root), (4, .int (nI ed))]) hx hb dX2_rootOfRow_111 hl (k := 5) rfl (nI_add _ 1) (by decide) rfl (fun ls hl => ?_)
        refine lv_goto (tgt := 38) hx hb dX2_rootOfRow_114 (by decide) ?_
        exact ih (ed) (root) (lev + 1) _ _ (by omega) (by omega) (by first | exact k3 | (rw [th_row_z (by omega) (by omega)]; exact he)) (by first | (rw [k4, if_pos (by omega)]; done) | (rw [k4, if_neg (by omega), hroot]; done) | (rw [th_row_z (by omega) (by omega)]; exact hroot)) hS (lv_sub hl [1, 2, 3, 4, 5, 0] rfl)
      obtain ⟨k1, k2, k3, k4⟩ := th_row_s hn hB hal hm (show lev < 7 by omega) he c_6
      refine lv_iload hx hb dX2_rootOfRow_55 (lv_at hl 4 rfl) ?_
      refine lv_iload_n hx hb dX2_rootOfRow_57 rfl (lv_at hl 1 rfl) ?_
      refine lv_iload_n hx hb dX2_rootOfRow_58 rfl (lv_at hl 2 rfl) ?_
      refine lv_iadd hx hb dX2_rootOfRow_59 ?_
      refine th_ti (nI_add _ _) ?_
      refine th_ine (tgt := 67) hx hb dX2_rootOfRow_60 (by decide) (by omega) (by omega) (fun c_7 => ?_) (fun c_7 => ?_)
      · skip
        refine lv_iconst (v := nI 0) hx hb dX2_rootOfRow_67 (by decide) ?_
        refine lv_istore (lv' := [(6, .int (nI 0)), (0, .ref v), (1, .int (nI a0)), (2, .int (nI m0)), (3, .int root), (4, .int (nI ed)), (5, .int (nI lev))]) hx hb dX2_rootOfRow_68 hl (by decide) rfl (fun ls hl => ?_)
        refine lv_iload hx hb dX2_rootOfRow_70 (lv_at hl 5 rfl) ?_
        refine lv_iconst (v := nI 1) hx hb dX2_rootOfRow_72 (by decide) ?_
        refine lv_iload hx hb dX2_rootOfRow_73 (lv_at hl 6 rfl) ?_
        refine lv_ishl hx hb dX2_rootOfRow_75 ?_
        refine th_ti (show (nI 1) <<< ((nI lev) &&& 31) = nI (2 ^ lev) from (pk_shlN _ lev (th_s5 lev (by omega)) (by omega)).trans (by rw [Nat.one_mul])) ?_
        refine lv_isub hx hb dX2_rootOfRow_76 ?_
        refine th_ti (pk_sub (by omega)) ?_
        refine lv_istore (lv' := [(4, .int (nI (ed - (2 ^ lev)))), (6, .int (nI 0)), (0, .ref v), (1, .int (nI a0)), (2, .int (nI m0)), (3, .int root), (5, .int (nI lev))]) hx hb dX2_rootOfRow_77 hl (by decide) rfl (fun ls hl => ?_)
        refine lv_aload_n hx hb dX2_rootOfRow_79 rfl (lv_at hl 2 rfl) ?_
        refine lv_sipush (v := nI 128) hx hb dX2_rootOfRow_80 (by decide) ?_
        refine lv_iload hx hb dX2_rootOfRow_83 (lv_at hl 0 rfl) ?_
        refine lv_iadd hx hb dX2_rootOfRow_85 ?_
        refine th_ti (nI_add _ _) ?_
        refine lv_iload hx hb dX2_rootOfRow_86 (lv_at hl 6 rfl) ?_
        refine lv_ishr hx hb dX2_rootOfRow_88 ?_
        refine th_ti (show (nI (128 + (ed - (2 ^ lev)))) >>> ((nI lev) &&& 31) = nI ((128 + (ed - 2 ^ lev)) / 2 ^ lev) from pk_shrN (by omega) _ lev (th_s5 lev (by omega))) ?_
        refine th_callV hx hb hml hown hts ⟨hK, hN⟩ hl hS (hP 0 _ rfl) rfl (rest := []) (c_X2_blockAt l Y _ v a b n f g (hP.sub (ws' := [(v, .inr (2, [.int (nI n), .ref a, .ref b])), (a, .inl (Y.2 0, 100, .inl f)), (b, .inl (Y.2 0, 256, .inl g))]) [0, 1, 2] rfl) ((128 + (ed - 2 ^ lev)) / 2 ^ lev) (by omega)) ok_X2_blockAt tw_2_111 dX2_rootOfRow_89 rfl rfl (Nat.le_of_ble_eq_true rfl) ⟨Nat.le_of_ble_eq_true rfl, Nat.le_of_ble_eq_true rfl⟩ ⟨Nat.le_of_ble_eq_true rfl, Nat.le_of_ble_eq_true rfl⟩ (fun _ h => h.elim) (th_kpi (fun locs hS => ?_))
        refine lv_istore (lv' := [(7, .int (g ((128 + (ed - 2 ^ lev)) / 2 ^ lev))), (4, .int (nI (ed - (2 ^ lev)))), (6, .int (nI 0)), (0, .ref v), (1, .int (nI a0)), (2, .int (nI m0)), (3, .int root), (5, .int (nI lev))]) hx hb dX2_rootOfRow_92 hl (by decide) rfl (fun ls hl => ?_)
        refine lv_iload hx hb dX2_rootOfRow_94 (lv_at hl 2 rfl) ?_
        refine th_zeq (tgt := 104) hx hb dX2_rootOfRow_96 (by decide) (by omega) (fun c_8 => ?_) (fun c_8 => by exfalso; omega)
        refine lv_iload hx hb dX2_rootOfRow_104 (lv_at hl 0 rfl) ?_
        refine lv_iload_n hx hb dX2_rootOfRow_106 rfl (lv_at hl 6 rfl) ?_
        refine th_callSN hx hb hml hown hts ⟨hK, hN⟩ hl hS (rest := []) (c_X5_mix l Y _ (g ((128 + (ed - 2 ^ lev)) / 2 ^ lev)) root) ok_X5_mix (tn_2_56 hN) dX2_rootOfRow_107 rfl rfl (Nat.le_of_ble_eq_true rfl) ⟨Nat.le_of_ble_eq_true rfl, Nat.le_of_ble_eq_true rfl⟩ ⟨Nat.le_of_ble_eq_true rfl, Nat.le_of_ble_eq_true rfl⟩ (fun _ h => h.elim) (th_kpi (fun locs hS => ?_))
        refine lv_istore_n (lv' := [(3, .int (th_mx (g ((128 + (ed - 2 ^ lev)) / 2 ^ lev)) root)), (7, .int (g ((128 + (ed - 2 ^ lev)) / 2 ^ lev))), (4, .int (nI (ed - (2 ^ lev)))), (6, .int (nI 0)), (0, .ref v), (1, .int (nI a0)), (2, .int (nI m0)), (5, .int (nI lev))]) hx hb dX2_rootOfRow_110 rfl hl (by decide) rfl (fun ls hl => ?_)
        refine lv_iinc (v := nI (lev + 1)) (lv' := [(5, .int (nI (lev + 1))), (3, .int (th_mx (g ((128 + (ed - 2 ^ lev)) / 2 ^ lev)) root)), (7, .int (g ((128 + (ed - 2 ^ lev)) / 2 ^ lev))), (4, .int (nI (ed - (2 ^ lev)))), (6, .int (nI 0)), (0, .ref v), (1, .int (nI a0)), (2, .int (nI m0))]) hx hb dX2_rootOfRow_111 hl (k := 7) rfl (nI_add _ 1) (by decide) rfl (fun ls hl => ?_)
        refine lv_goto (tgt := 38) hx hb dX2_rootOfRow_114 (by decide) ?_
        exact ih (ed - (2 ^ lev)) (th_mx (g ((128 + (ed - 2 ^ lev)) / 2 ^ lev)) root) (lev + 1) _ _ (by omega) (by omega) (by first | exact k3 | (rw [th_row_z (by omega) (by omega)]; exact he)) (by first | (rw [k4, if_pos (by omega)]; done) | (rw [k4, if_neg (by omega), hroot]; done) | (rw [th_row_z (by omega) (by omega)]; exact hroot)) hS (lv_sub hl [5, 6, 7, 1, 3, 0] rfl)
      refine lv_iconst (v := nI 1) hx hb dX2_rootOfRow_63 (by decide) ?_
      refine lv_goto (tgt := 68) hx hb dX2_rootOfRow_64 (by decide) ?_
      refine lv_istore (lv' := [(6, .int (nI 1)), (0, .ref v), (1, .int (nI a0)), (2, .int (nI m0)), (3, .int root), (4, .int (nI ed)), (5, .int (nI lev))]) hx hb dX2_rootOfRow_68 hl (by decide) rfl (fun ls hl => ?_)
      refine lv_iload hx hb dX2_rootOfRow_70 (lv_at hl 5 rfl) ?_
      refine lv_iconst (v := nI 1) hx hb dX2_rootOfRow_72 (by decide) ?_
      refine lv_iload hx hb dX2_rootOfRow_73 (lv_at hl 6 rfl) ?_
      refine lv_ishl hx hb dX2_rootOfRow_75 ?_
      refine th_ti (show (nI 1) <<< ((nI lev) &&& 31) = nI (2 ^ lev) from (pk_shlN _ lev (th_s5 lev (by omega)) (by omega)).trans (by rw [Nat.one_mul])) ?_
      refine lv_isub hx hb dX2_rootOfRow_76 ?_
      refine th_ti (pk_sub (by omega)) ?_
      refine lv_istore (lv' := [(4, .int (nI (ed - (2 ^ lev)))), (6, .int (nI 1)), (0, .ref v), (1, .int (nI a0)), (2, .int (nI m0)), (3, .int root), (5, .int (nI lev))]) hx hb dX2_rootOfRow_77 hl (by decide) rfl (fun ls hl => ?_)
      refine lv_aload_n hx hb dX2_rootOfRow_79 rfl (lv_at hl 2 rfl) ?_
      refine lv_sipush (v := nI 128) hx hb dX2_rootOfRow_80 (by decide) ?_
      refine lv_iload hx hb dX2_rootOfRow_83 (lv_at hl 0 rfl) ?_
      refine lv_iadd hx hb dX2_rootOfRow_85 ?_
      refine th_ti (nI_add _ _) ?_
      refine lv_iload hx hb dX2_rootOfRow_86 (lv_at hl 6 rfl) ?_
      refine lv_ishr hx hb dX2_rootOfRow_88 ?_
      refine th_ti (show (nI (128 + (ed - (2 ^ lev)))) >>> ((nI lev) &&& 31) = nI ((128 + (ed - 2 ^ lev)) / 2 ^ lev) from pk_shrN (by omega) _ lev (th_s5 lev (by omega))) ?_
      refine th_callV hx hb hml hown hts ⟨hK, hN⟩ hl hS (hP 0 _ rfl) rfl (rest := []) (c_X2_blockAt l Y _ v a b n f g (hP.sub (ws' := [(v, .inr (2, [.int (nI n), .ref a, .ref b])), (a, .inl (Y.2 0, 100, .inl f)), (b, .inl (Y.2 0, 256, .inl g))]) [0, 1, 2] rfl) ((128 + (ed - 2 ^ lev)) / 2 ^ lev) (by omega)) ok_X2_blockAt tw_2_111 dX2_rootOfRow_89 rfl rfl (Nat.le_of_ble_eq_true rfl) ⟨Nat.le_of_ble_eq_true rfl, Nat.le_of_ble_eq_true rfl⟩ ⟨Nat.le_of_ble_eq_true rfl, Nat.le_of_ble_eq_true rfl⟩ (fun _ h => h.elim) (th_kpi (fun locs hS => ?_))
      refine lv_istore (lv' := [(7, .int (g ((128 + (ed - 2 ^ lev)) / 2 ^ lev))), (4, .int (nI (ed - (2 ^ lev)))), (6, .int (nI 1)), (0, .ref v), (1, .int (nI a0)), (2, .int (nI m0)), (3, .int root), (5, .int (nI lev))]) hx hb dX2_rootOfRow_92 hl (by decide) rfl (fun ls hl => ?_)
      refine lv_iload hx hb dX2_rootOfRow_94 (lv_at hl 2 rfl) ?_
      refine th_zeq (tgt := 104) hx hb dX2_rootOfRow_96 (by decide) (by omega) (fun c_9 => by exfalso; omega) (fun c_9 => ?_)
      refine lv_iload hx hb dX2_rootOfRow_99 (lv_at hl 0 rfl) ?_
      refine lv_goto (tgt := 110) hx hb dX2_rootOfRow_101 (by decide) ?_
      refine lv_istore_n (lv' := [(3, .int (g ((128 + (ed - 2 ^ lev)) / 2 ^ lev))), (7, .int (g ((128 + (ed - 2 ^ lev)) / 2 ^ lev))), (4, .int (nI (ed - (2 ^ lev)))), (6, .int (nI 1)), (0, .ref v), (1, .int (nI a0)), (2, .int (nI m0)), (5, .int (nI lev))]) hx hb dX2_rootOfRow_110 rfl hl (by decide) rfl (fun ls hl => ?_)
      refine lv_iinc (v := nI (lev + 1)) (lv' := [(5, .int (nI (lev + 1))), (3, .int (g ((128 + (ed - 2 ^ lev)) / 2 ^ lev))), (7, .int (g ((128 + (ed - 2 ^ lev)) / 2 ^ lev))), (4, .int (nI (ed - (2 ^ lev)))), (6, .int (nI 1)), (0, .ref v), (1, .int (nI a0)), (2, .int (nI m0))]) hx hb dX2_rootOfRow_111 hl (k := 7) rfl (nI_add _ 1) (by decide) rfl (fun ls hl => ?_)
      refine lv_goto (tgt := 38) hx hb dX2_rootOfRow_114 (by decide) ?_
      exact ih (ed - (2 ^ lev)) (g ((128 + (ed - 2 ^ lev)) / 2 ^ lev)) (lev + 1) _ _ (by omega) (by omega) (by first | exact k3 | (rw [th_row_z (by omega) (by omega)]; exact he)) (by first | (rw [k4, if_pos (by omega)]; done) | (rw [k4, if_neg (by omega), hroot]; done) | (rw [th_row_z (by omega) (by omega)]; exact hroot)) hS (lv_sub hl [5, 6, 7, 1, 3, 0] rfl)
  exact lp_3 ((7 - (0)) + 1) (a0 + m0) (nI 0) (0) _ _ (Nat.lt_succ_self _) (by omega) (by rw [Nat.pow_zero, Nat.mod_one]; rfl) (by rw [Nat.pow_zero, Nat.mod_one, th_rt_0]; rfl) hS (lv_sub hl [3, 4, 5, 2, 1, 0] rfl)

set_option maxRecDepth 100000 in
set_option maxHeartbeats 4000000 in
theorem c_X2_rootAt (l : Launch) (Y : th_Y) (H : Heap) (v a b n : Nat) (f g : Nat → Int32) (hP : va_P Y.1 vwCl [(v, .inr (2, [.int (nI n), .ref a, .ref b])), (a, .inl (Y.2 0, 100, .inl f)), (b, .inl (Y.2 0, 256, .inl g))] H) (m0 : Nat) (hn : n ≤ 100) (hm : m0 ≤ n) (hB : th_BI f g n) : th_P l Y yX2_rootAt cX2_rootAt 2 (some .int) (th_rm 2 0 0) [.ref v, .int (nI m0)] H (fun r9 => r9 = some (.int (th_rt f 0 m0))) := by
  refine th_M.intro (by decide) (Nat.le_of_ble_eq_true rfl) ?_
  intro p e s m args below meth c ls Q hQ C hKN hl hS
  obtain ⟨hx, hb, hr, hml, hown, hts, hlk, hnm⟩ := C
  obtain ⟨hK, hN⟩ := hKN
  have hown : s.vm.findClass RX2 = some m.cls := hown
  have hl : lv_has ls 2 [(0, .ref v), (1, .int (nI m0))] := hl
  refine lv_aload_n hx hb dX2_rootAt_0 rfl (lv_at hl 0 rfl) ?_
  refine lv_iconst (v := nI 0) hx hb dX2_rootAt_1 (by decide) ?_
  refine lv_iload_n hx hb dX2_rootAt_2 rfl (lv_at hl 1 rfl) ?_
  refine th_callV hx hb hml hown hts ⟨hK, hN⟩ hl hS (hP 0 _ rfl) rfl (rest := []) (c_X2_rootOfRow l Y _ v a b n f g (hP.sub (ws' := [(v, .inr (2, [.int (nI n), .ref a, .ref b])), (a, .inl (Y.2 0, 100, .inl f)), (b, .inl (Y.2 0, 256, .inl g))]) [0, 1, 2] rfl) 0 m0 (by omega) (by omega) hB (by first | assumption | exact th_al_0 (by omega))) ok_X2_rootOfRow tw_2_107 dX2_rootAt_3 rfl rfl (Nat.le_of_ble_eq_true rfl) ⟨Nat.le_of_ble_eq_true rfl, Nat.le_of_ble_eq_true rfl⟩ ⟨Nat.le_of_ble_eq_true rfl, Nat.le_of_ble_eq_true rfl⟩ (fun _ h => h.elim) (th_kpi (fun locs hS => ?_))
  refine th_iret hx hb hr hlk hQ hS dX2_rootAt_6 (Nat.le_of_ble_eq_true rfl) (Nat.le_of_ble_eq_true rfl) ?_
  exact ⟨rfl, rfl⟩

set_option maxRecDepth 100000 in
set_option maxHeartbeats 4000000 in
theorem c_X2_rootAnewOf (l : Launch) (Y : th_Y) : ∀ (k : Nat), k ≤ 7 → ∀ (H : Heap) (a : Nat) (f : Nat → Int32) (hP : va_P Y.1 vwCl [(a, .inl (Y.2 0, 100, .inl f))] H) (x m0 d : Nat), d + k = 7 → 1 ≤ m0 → m0 ≤ 2 ^ k → x + m0 ≤ 100 → th_P l Y yX2_rootAnewOf cX2_rootAnewOf 5 (some .int) (th_rm (k + 1) 0 0) [.ref a, .int (nI x), .int (nI m0), .int (nI d)] H (fun r9 => r9 = some (.int (th_rt f x m0))) := by
  intro k; induction k with
  | zero =>
    intro hk H a f hP x m0 d hd h1 hmk hx
    simp only [Nat.reducePow] at hmk
    refine th_M.intro (by decide) (Nat.le_of_ble_eq_true rfl) ?_
    intro p e s m args below meth c ls Q hQ C hKN hl hS
    obtain ⟨hx, hb, hr, hml, hown, hts, hlk, hnm⟩ := C
    obtain ⟨hK, hN⟩ := hKN
    have hown : s.vm.findClass RX2 = some m.cls := hown
    have hl : lv_has ls 5 [(0, .ref a), (1, .int (nI x)), (2, .int (nI m0)), (3, .int (nI d))] := hl
    refine lv_iload_n hx hb dX2_rootAnewOf_0 rfl (lv_at hl 3 rfl) ?_
    refine lv_bipush (v := nI 7) hx hb dX2_rootAnewOf_1 (by decide) ?_
    refine th_igt (tgt := 16) hx hb dX2_rootAnewOf_3 (by decide) (by omega) (by omega) (fun c_1 => by exfalso; omega) (fun c_1 => ?_)
    refine lv_iload_n hx hb dX2_rootAnewOf_6 rfl (lv_at hl 1 rfl) ?_
    refine th_zlt (tgt := 16) hx hb dX2_rootAnewOf_7 (by decide) (by omega) ?_
    refine lv_iload_n hx hb dX2_rootAnewOf_10 rfl (lv_at hl 1 rfl) ?_
    refine lv_aload_n hx hb dX2_rootAnewOf_11 rfl (lv_at hl 0 rfl) ?_
    refine va_alen (v := nI 100) hx hb hK hP 0 0 rfl rfl rfl dX2_rootAnewOf_12 ?_
    refine th_ilt (tgt := 18) hx hb dX2_rootAnewOf_13 (by decide) (by omega) (by omega) (fun c_2 => ?_) (fun c_2 => by exfalso; omega)
    refine lv_iload_n hx hb dX2_rootAnewOf_18 rfl (lv_at hl 2 rfl) ?_
    refine lv_iconst (v := nI 1) hx hb dX2_rootAnewOf_19 (by decide) ?_
    refine th_igt (tgt := 30) hx hb dX2_rootAnewOf_20 (by decide) (by omega) (by omega) (fun c_3 => by exfalso; omega) (fun c_3 => ?_)
    refine lv_aload_n hx hb dX2_rootAnewOf_23 rfl (lv_at hl 0 rfl) ?_
    refine lv_iload_n hx hb dX2_rootAnewOf_24 rfl (lv_at hl 1 rfl) ?_
    refine th_iald hx hb hK hP 0 rfl (j := x) (by omega) (by omega) dX2_rootAnewOf_25 ?_
    refine th_callSN hx hb hml hown hts ⟨hK, hN⟩ hl hS (rest := []) (c_X5_leafSum l Y _ (f x)) ok_X5_leafSum (tn_2_50 hN) dX2_rootAnewOf_26 rfl rfl (Nat.le_of_ble_eq_true rfl) ⟨Nat.le_of_ble_eq_true rfl, Nat.le_of_ble_eq_true rfl⟩ ⟨Nat.le_of_ble_eq_true rfl, Nat.le_of_ble_eq_true rfl⟩ (fun _ h => h.elim) (th_kpi (fun locs hS => ?_))
    refine th_iret hx hb hr hlk hQ hS dX2_rootAnewOf_29 (Nat.le_of_ble_eq_true rfl) (Nat.le_of_ble_eq_true rfl) ?_
    obtain rfl : m0 = 1 := by omega
    exact ⟨by rw [th_rt_1], rfl⟩
  | succ k ih =>
    intro hk H a f hP x m0 d hd h1 hmk hx
    have h128 : 2 ^ (k + 1) ≤ 128 := Nat.le_trans (Nat.pow_le_pow_right (n := 2) (by decide) hk) (by decide)
    refine th_M.intro (by decide) (Nat.le_of_ble_eq_true rfl) ?_
    intro p e s m args below meth c ls Q hQ C hKN hl hS
    obtain ⟨hx, hb, hr, hml, hown, hts, hlk, hnm⟩ := C
    obtain ⟨hK, hN⟩ := hKN
    have hown : s.vm.findClass RX2 = some m.cls := hown
    have hl : lv_has ls 5 [(0, .ref a), (1, .int (nI x)), (2, .int (nI m0)), (3, .int (nI d))] := hl
    refine lv_iload_n hx hb dX2_rootAnewOf_0 rfl (lv_at hl 3 rfl) ?_
    refine lv_bipush (v := nI 7) hx hb dX2_rootAnewOf_1 (by decide) ?_
    refine th_igt (tgt := 16) hx hb dX2_rootAnewOf_3 (by decide) (by omega) (by omega) (fun c_1 => by exfalso; omega) (fun c_1 => ?_)
    refine lv_iload_n hx hb dX2_rootAnewOf_6 rfl (lv_at hl 1 rfl) ?_
    refine th_zlt (tgt := 16) hx hb dX2_rootAnewOf_7 (by decide) (by omega) ?_
    refine lv_iload_n hx hb dX2_rootAnewOf_10 rfl (lv_at hl 1 rfl) ?_
    refine lv_aload_n hx hb dX2_rootAnewOf_11 rfl (lv_at hl 0 rfl) ?_
    refine va_alen (v := nI 100) hx hb hK hP 0 0 rfl rfl rfl dX2_rootAnewOf_12 ?_
    refine th_ilt (tgt := 18) hx hb dX2_rootAnewOf_13 (by decide) (by omega) (by omega) (fun c_2 => ?_) (fun c_2 => by exfalso; omega)
    refine lv_iload_n hx hb dX2_rootAnewOf_18 rfl (lv_at hl 2 rfl) ?_
    refine lv_iconst (v := nI 1) hx hb dX2_rootAnewOf_19 (by decide) ?_
    refine th_igt (tgt := 30) hx hb dX2_rootAnewOf_20 (by decide) (by omega) (by omega) (fun c_3 => ?_) (fun c_3 => ?_)
    · skip
      have s1 := th_sp_lt (n := m0) (by omega)
      have s2 := th_sp_pos m0
      have s3 := th_sp_ge (n := m0) (by omega)
      have s4 := th_sp_le (n := m0) (k := k) (by omega) hmk
      refine lv_iload_n hx hb dX2_rootAnewOf_30 rfl (lv_at hl 2 rfl) ?_
      refine th_callS hx hb hml hown hts ⟨hK, hN⟩ hl hS (rest := []) (c_X2_greatestPowerBelow l Y _ m0 (by omega) (by omega)) ok_X2_greatestPowerBelow tw_2_129 dX2_rootAnewOf_31 rfl rfl (Nat.le_of_ble_eq_true rfl) ⟨by change 20 * _ + 1 ≤ 20 * _; omega, by change 8 + (_ + 11) + 400 * _ ≤ 400 * _; omega⟩ ⟨Nat.le_of_ble_eq_true rfl, Nat.le_of_ble_eq_true rfl⟩ (fun _ h => h.elim) (th_kpi (fun locs hS => ?_))
      refine lv_istore (lv' := [(4, .int (nI (th_sp m0))), (0, .ref a), (1, .int (nI x)), (2, .int (nI m0)), (3, .int (nI d))]) hx hb dX2_rootAnewOf_34 hl (by decide) rfl (fun ls hl => ?_)
      refine lv_aload_n hx hb dX2_rootAnewOf_36 rfl (lv_at hl 1 rfl) ?_
      refine lv_iload_n hx hb dX2_rootAnewOf_37 rfl (lv_at hl 2 rfl) ?_
      refine lv_iload hx hb dX2_rootAnewOf_38 (lv_at hl 0 rfl) ?_
      refine lv_iload_n hx hb dX2_rootAnewOf_40 rfl (lv_at hl 4 rfl) ?_
      refine lv_iconst (v := nI 1) hx hb dX2_rootAnewOf_41 (by decide) ?_
      refine lv_iadd hx hb dX2_rootAnewOf_42 ?_
      refine th_ti (nI_add _ _) ?_
      refine th_callS hx hb hml hown hts ⟨hK, hN⟩ hl hS (rest := []) (ih (by omega) _ a f hP x (th_sp m0) (d + 1) (by omega) (by omega) (by omega) (by omega)) ok_X2_rootAnewOf tw_2_126 dX2_rootAnewOf_43 rfl rfl (Nat.le_of_ble_eq_true rfl) ⟨by change 20 * _ + 1 ≤ 20 * _; omega, by change 8 + (_ + 11) + 400 * _ ≤ 400 * _; omega⟩ ⟨Nat.le_of_ble_eq_true rfl, Nat.le_of_ble_eq_true rfl⟩ (fun _ h => h.elim) (th_kpi (fun locs hS => ?_))
      refine lv_aload_n hx hb dX2_rootAnewOf_46 rfl (lv_at hl 1 rfl) ?_
      refine lv_iload_n hx hb dX2_rootAnewOf_47 rfl (lv_at hl 2 rfl) ?_
      refine lv_iload hx hb dX2_rootAnewOf_48 (lv_at hl 0 rfl) ?_
      refine lv_iadd hx hb dX2_rootAnewOf_50 ?_
      refine th_ti (nI_add _ _) ?_
      refine lv_iload_n hx hb dX2_rootAnewOf_51 rfl (lv_at hl 3 rfl) ?_
      refine lv_iload hx hb dX2_rootAnewOf_52 (lv_at hl 0 rfl) ?_
      refine lv_isub hx hb dX2_rootAnewOf_54 ?_
      refine th_ti (pk_sub (by omega)) ?_
      refine lv_iload_n hx hb dX2_rootAnewOf_55 rfl (lv_at hl 4 rfl) ?_
      refine lv_iconst (v := nI 1) hx hb dX2_rootAnewOf_56 (by decide) ?_
      refine lv_iadd hx hb dX2_rootAnewOf_57 ?_
      refine th_ti (nI_add _ _) ?_
      refine th_callS hx hb hml hown hts ⟨hK, hN⟩ hl hS (rest := [.int (th_rt f x (th_sp m0))]) (ih (by omega) _ a f hP (x + (th_sp m0)) (m0 - (th_sp m0)) (d + 1) (by omega) (by omega) (by omega) (by omega)) ok_X2_rootAnewOf tw_2_126 dX2_rootAnewOf_58 rfl rfl (Nat.le_of_ble_eq_true rfl) ⟨by change 20 * _ + 1 ≤ 20 * _; omega, by change 8 + (_ + 11) + 400 * _ ≤ 400 * _; omega⟩ ⟨Nat.le_of_ble_eq_true rfl, Nat.le_of_ble_eq_true rfl⟩ (fun _ h => h.elim) (th_kpi (fun locs hS => ?_))
      refine th_callSN hx hb hml hown hts ⟨hK, hN⟩ hl hS (rest := []) (c_X5_mix l Y _ (th_rt f x (th_sp m0)) (th_rt f (x + (th_sp m0)) (m0 - (th_sp m0)))) ok_X5_mix (tn_2_56 hN) dX2_rootAnewOf_61 rfl rfl (Nat.le_of_ble_eq_true rfl) ⟨by change 20 * _ + 1 ≤ 20 * _; omega, by change 8 + (_ + 11) + 400 * _ ≤ 400 * _; omega⟩ ⟨Nat.le_of_ble_eq_true rfl, Nat.le_of_ble_eq_true rfl⟩ (fun _ h => h.elim) (th_kpi (fun locs hS => ?_))
      refine th_iret hx hb hr hlk hQ hS dX2_rootAnewOf_64 (Nat.le_of_ble_eq_true rfl) (Nat.le_of_ble_eq_true rfl) ?_
      exact ⟨by rw [th_rt_s f x (show 2 ≤ m0 by omega)], rfl⟩
    refine lv_aload_n hx hb dX2_rootAnewOf_23 rfl (lv_at hl 0 rfl) ?_
    refine lv_iload_n hx hb dX2_rootAnewOf_24 rfl (lv_at hl 1 rfl) ?_
    refine th_iald hx hb hK hP 0 rfl (j := x) (by omega) (by omega) dX2_rootAnewOf_25 ?_
    refine th_callSN hx hb hml hown hts ⟨hK, hN⟩ hl hS (rest := []) (c_X5_leafSum l Y _ (f x)) ok_X5_leafSum (tn_2_50 hN) dX2_rootAnewOf_26 rfl rfl (Nat.le_of_ble_eq_true rfl) ⟨by change 20 * _ + 1 ≤ 20 * _; omega, by change 8 + (_ + 11) + 400 * _ ≤ 400 * _; omega⟩ ⟨Nat.le_of_ble_eq_true rfl, Nat.le_of_ble_eq_true rfl⟩ (fun _ h => h.elim) (th_kpi (fun locs hS => ?_))
    refine th_iret hx hb hr hlk hQ hS dX2_rootAnewOf_29 (Nat.le_of_ble_eq_true rfl) (Nat.le_of_ble_eq_true rfl) ?_
    obtain rfl : m0 = 1 := by omega
    exact ⟨by rw [th_rt_1], rfl⟩

set_option maxRecDepth 100000 in
set_option maxHeartbeats 4000000 in
theorem c_X2_rootFromValues (l : Launch) (Y : th_Y) (H : Heap) (v a b n : Nat) (f g : Nat → Int32) (hP : va_P Y.1 vwCl [(v, .inr (2, [.int (nI n), .ref a, .ref b])), (a, .inl (Y.2 0, 100, .inl f)), (b, .inl (Y.2 0, 256, .inl g))] H) (m0 : Nat) (hn : n ≤ 100) (hm : m0 ≤ n) : th_P l Y yX2_rootFromValues cX2_rootFromValues 2 (some .int) (th_rm 9 0 0) [.ref v, .int (nI m0)] H (fun r9 => r9 = some (.int (th_rt f 0 m0))) := by
  refine th_M.intro (by decide) (Nat.le_of_ble_eq_true rfl) ?_
  intro p e s m args below meth c ls Q hQ C hKN hl hS
  obtain ⟨hx, hb, hr, hml, hown, hts, hlk, hnm⟩ := C
  obtain ⟨hK, hN⟩ := hKN
  have hown : s.vm.findClass RX2 = some m.cls := hown
  have hl : lv_has ls 2 [(0, .ref v), (1, .int (nI m0))] := hl
  refine lv_iload_n hx hb dX2_rootFromValues_0 rfl (lv_at hl 1 rfl) ?_
  refine lv_iconst (v := nI 1) hx hb dX2_rootFromValues_1 (by decide) ?_
  refine th_ilt (tgt := 13) hx hb dX2_rootFromValues_2 (by decide) (by omega) (by omega) (fun c_1 => ?_) (fun c_1 => ?_)
  · skip
    refine lv_iconst (v := nI 0) hx hb dX2_rootFromValues_13 (by decide) ?_
    refine lv_goto (tgt := 27) hx hb dX2_rootFromValues_14 (by decide) ?_
    refine th_iret hx hb hr hlk hQ hS dX2_rootFromValues_27 (Nat.le_of_ble_eq_true rfl) (Nat.le_of_ble_eq_true rfl) ?_
    obtain rfl : m0 = 0 := by omega
    exact ⟨by rw [th_rt_0]; rfl, rfl⟩
  refine lv_iload_n hx hb dX2_rootFromValues_5 rfl (lv_at hl 1 rfl) ?_
  refine lv_aload_n hx hb dX2_rootFromValues_6 rfl (lv_at hl 0 rfl) ?_
  refine va_get (D := Y.1) (ci := 2) (v := .int (nI n)) (C := RX2) (T := TX2) (N := 3) hx hb hts inX2 hown hK hP 0 rfl rfl 0 (by decide) (hts _ tw_1_92) (fun _ h9 => h9) rfl dX2_rootFromValues_7 ?_
  refine th_ile (tgt := 17) hx hb dX2_rootFromValues_10 (by decide) (by omega) (by omega) (fun c_2 => ?_) (fun c_2 => by exfalso; omega)
  refine lv_aload_n hx hb dX2_rootFromValues_17 rfl (lv_at hl 0 rfl) ?_
  refine va_get (D := Y.1) (ci := 2) (v := .ref a) (C := RX2) (T := TX2) (N := 3) hx hb hts inX2 hown hK hP 0 rfl rfl 1 (by decide) (hts _ tw_1_95) (fun _ h9 => h9) rfl dX2_rootFromValues_18 ?_
  refine lv_iconst (v := nI 0) hx hb dX2_rootFromValues_21 (by decide) ?_
  refine lv_iload_n hx hb dX2_rootFromValues_22 rfl (lv_at hl 1 rfl) ?_
  refine lv_iconst (v := nI 0) hx hb dX2_rootFromValues_23 (by decide) ?_
  refine th_callS hx hb hml hown hts ⟨hK, hN⟩ hl hS (rest := []) (c_X2_rootAnewOf l Y 7 (by decide) _ a f (hP.sub (ws' := [(a, .inl (Y.2 0, 100, .inl f))]) [1] rfl) 0 m0 0 (by omega) (by omega) (by simp only [Nat.reducePow]; omega) (by omega)) ok_X2_rootAnewOf tw_2_126 dX2_rootFromValues_24 rfl rfl (Nat.le_of_ble_eq_true rfl) ⟨Nat.le_of_ble_eq_true rfl, Nat.le_of_ble_eq_true rfl⟩ ⟨Nat.le_of_ble_eq_true rfl, Nat.le_of_ble_eq_true rfl⟩ (fun _ h => h.elim) (th_kpi (fun locs hS => ?_))
  refine th_iret hx hb hr hlk hQ hS dX2_rootFromValues_27 (Nat.le_of_ble_eq_true rfl) (Nat.le_of_ble_eq_true rfl) ?_
  exact ⟨rfl, rfl⟩

set_option maxRecDepth 100000 in
set_option maxHeartbeats 4000000 in
theorem c_X2_add (l : Launch) (Y : th_Y) (H0 : Heap) (v a b n : Nat) (f g : Nat → Int32) (hP : va_P Y.1 vwCl [(v, .inr (2, [.int (nI n), .ref a, .ref b])), (a, .inl (Y.2 0, 100, .inl f)), (b, .inl (Y.2 0, 256, .inl g))] H0) (hD0 : va_D (fun _ => True) [(v, .inr (2, [.int (nI n), .ref a, .ref b])), (a, .inl (Y.2 0, 100, .inl f)), (b, .inl (Y.2 0, 256, .inl g))]) (x : Int32) (hn : n < 100) (hB : th_BI f g n) : th_M l Y yX2_add cX2_add 4 none (th_rm 1 0 0) [.ref v, .int x] H0 (fun z => z ∈ [v, a, b]) (fun r H' => r = none ∧ ∃ g', va_P Y.1 vwCl [(v, .inr (2, [.int (nI (n + 1)), .ref a, .ref b])), (a, .inl (Y.2 0, 100, .inl (upd f n x))), (b, .inl (Y.2 0, 256, .inl g'))] H' ∧ th_BI (upd f n x) g' (n + 1)) := by
  refine th_M.intro (by decide) (Nat.le_of_ble_eq_true rfl) ?_
  intro p e s m args below meth c ls Q hQ C hKN hl hS
  obtain ⟨hx, hb, hr, hml, hown, hts, hlk, hnm⟩ := C
  obtain ⟨hK, hN⟩ := hKN
  have hown : s.vm.findClass RX2 = some m.cls := hown
  have hl : lv_has ls 4 [(0, .ref v), (1, .int x)] := hl
  have hD : va_D (fun z => z ∈ [v, a, b]) [(v, .inr (2, [.int (nI n), .ref a, .ref b])), (a, .inl (Y.2 0, 100, .inl f)), (b, .inl (Y.2 0, 256, .inl g))] := th_mem hD0
  refine lv_aload_n hx hb dX2_add_0 rfl (lv_at hl 0 rfl) ?_
  refine va_get (D := Y.1) (ci := 2) (v := .int (nI n)) (C := RX2) (T := TX2) (N := 3) hx hb hts inX2 hown hK hP 0 rfl rfl 0 (by decide) (hts _ tw_1_92) (fun _ h9 => h9) rfl dX2_add_1 ?_
  refine th_zlt (tgt := 19) hx hb dX2_add_4 (by decide) (by omega) ?_
  refine lv_aload_n hx hb dX2_add_7 rfl (lv_at hl 0 rfl) ?_
  refine va_get (D := Y.1) (ci := 2) (v := .int (nI n)) (C := RX2) (T := TX2) (N := 3) hx hb hts inX2 hown hK hP 0 rfl rfl 0 (by decide) (hts _ tw_1_92) (fun _ h9 => h9) rfl dX2_add_8 ?_
  refine lv_aload_n hx hb dX2_add_11 rfl (lv_at hl 0 rfl) ?_
  refine va_get (D := Y.1) (ci := 2) (v := .ref a) (C := RX2) (T := TX2) (N := 3) hx hb hts inX2 hown hK hP 0 rfl rfl 1 (by decide) (hts _ tw_1_95) (fun _ h9 => h9) rfl dX2_add_12 ?_
  refine va_alen (v := nI 100) hx hb hK hP 1 0 rfl rfl rfl dX2_add_15 ?_
  refine th_ilt (tgt := 20) hx hb dX2_add_16 (by decide) (by omega) (by omega) (fun c_1 => ?_) (fun c_1 => by exfalso; omega)
  refine lv_sipush (v := nI 128) hx hb dX2_add_20 (by decide) ?_
  refine lv_aload_n hx hb dX2_add_23 rfl (lv_at hl 0 rfl) ?_
  refine va_get (D := Y.1) (ci := 2) (v := .int (nI n)) (C := RX2) (T := TX2) (N := 3) hx hb hts inX2 hown hK hP 0 rfl rfl 0 (by decide) (hts _ tw_1_92) (fun _ h9 => h9) rfl dX2_add_24 ?_
  refine lv_iadd hx hb dX2_add_27 ?_
  refine th_ti (nI_add _ _) ?_
  refine lv_istore_n (lv' := [(2, .int (nI (128 + n))), (0, .ref v), (1, .int x)]) hx hb dX2_add_28 rfl hl (by decide) rfl (fun ls hl => ?_)
  refine lv_aload_n hx hb dX2_add_29 rfl (lv_at hl 1 rfl) ?_
  refine va_get (D := Y.1) (ci := 2) (v := .ref a) (C := RX2) (T := TX2) (N := 3) hx hb hts inX2 hown hK hP 0 rfl rfl 1 (by decide) (hts _ tw_1_95) (fun _ h9 => h9) rfl dX2_add_30 ?_
  refine lv_aload_n hx hb dX2_add_33 rfl (lv_at hl 1 rfl) ?_
  refine va_get (D := Y.1) (ci := 2) (v := .int (nI n)) (C := RX2) (T := TX2) (N := 3) hx hb hts inX2 hown hK hP 0 rfl rfl 0 (by decide) (hts _ tw_1_92) (fun _ h9 => h9) rfl dX2_add_34 ?_
  refine lv_iload_n hx hb dX2_add_37 rfl (lv_at hl 2 rfl) ?_
  refine th_iast hx hb hK hP hD hS 1 rfl (j := n) (by omega) (by omega) dX2_add_38 (fun H locs hP hD hS => ?_)
  have hP : va_P Y.1 vwCl [(v, .inr (2, [.int (nI n), .ref a, .ref b])), (a, .inl (Y.2 0, 100, .inl (upd f n x))), (b, .inl (Y.2 0, 256, .inl g))] _ := hP
  have hD : va_D _ [(v, .inr (2, [.int (nI n), .ref a, .ref b])), (a, .inl (Y.2 0, 100, .inl (upd f n x))), (b, .inl (Y.2 0, 256, .inl g))] := hD
  refine lv_aload_n hx hb dX2_add_39 rfl (lv_at hl 1 rfl) ?_
  refine va_get (D := Y.1) (ci := 2) (v := .ref b) (C := RX2) (T := TX2) (N := 3) hx hb hts inX2 hown hK hP 0 rfl rfl 2 (by decide) (hts _ tw_1_96) (fun _ h9 => h9) rfl dX2_add_40 ?_
  refine lv_iload_n hx hb dX2_add_43 rfl (lv_at hl 0 rfl) ?_
  refine lv_iload_n hx hb dX2_add_44 rfl (lv_at hl 2 rfl) ?_
  refine th_callSN hx hb hml hown hts ⟨hK, hN⟩ hl hS (rest := [.int (nI (128 + n)), .ref b]) (c_X5_leafSum l Y _ x) ok_X5_leafSum (tn_2_50 hN) dX2_add_45 rfl rfl (Nat.le_of_ble_eq_true rfl) ⟨Nat.le_of_ble_eq_true rfl, Nat.le_of_ble_eq_true rfl⟩ ⟨Nat.le_of_ble_eq_true rfl, Nat.le_of_ble_eq_true rfl⟩ (fun _ h => h.elim) (th_kpi (fun locs hS => ?_))
  refine th_iast hx hb hK hP hD hS 2 rfl (j := (128 + n)) (by omega) (by omega) dX2_add_48 (fun H locs hP hD hS => ?_)
  have hP : va_P Y.1 vwCl [(v, .inr (2, [.int (nI n), .ref a, .ref b])), (a, .inl (Y.2 0, 100, .inl (upd f n x))), (b, .inl (Y.2 0, 256, .inl (upd g (128 + n) (th_ls x))))] _ := hP
  have hD : va_D _ [(v, .inr (2, [.int (nI n), .ref a, .ref b])), (a, .inl (Y.2 0, 100, .inl (upd f n x))), (b, .inl (Y.2 0, 256, .inl (upd g (128 + n) (th_ls x))))] := hD
  refine lv_aload_n hx hb dX2_add_49 rfl (lv_at hl 1 rfl) ?_
  refine lv_dup hx hb dX2_add_50 rfl ?_
  refine va_get (D := Y.1) (ci := 2) (v := .int (nI n)) (C := RX2) (T := TX2) (N := 3) hx hb hts inX2 hown hK hP 0 rfl rfl 0 (by decide) (hts _ tw_1_92) (fun _ h9 => h9) rfl dX2_add_51 ?_
  refine lv_iconst (v := nI 1) hx hb dX2_add_54 (by decide) ?_
  refine lv_iadd hx hb dX2_add_55 ?_
  refine th_ti (nI_add _ _) ?_
  refine va_put (D := Y.1) (ci := 2) (v := .int (nI (n + 1))) (ty := .int) (C := RX2) (T := TX2) (N := 3) hx hb hts inX2 tyX2 tyX2_ok nmX2 hown hK hP hD hS 0 rfl rfl 0 (by decide) (hts _ tw_1_92) (fun _ h9 => h9) rfl (by decide +kernel) rfl rfl (Nat.le_of_ble_eq_true rfl) dX2_add_56 (fun H locs hP hD hS => ?_)
  have hP : va_P Y.1 vwCl [(v, .inr (2, [.int (nI (n + 1)), .ref a, .ref b])), (a, .inl (Y.2 0, 100, .inl (upd f n x))), (b, .inl (Y.2 0, 256, .inl (upd g (128 + n) (th_ls x))))] _ := hP
  have hD : va_D _ [(v, .inr (2, [.int (nI (n + 1)), .ref a, .ref b])), (a, .inl (Y.2 0, 100, .inl (upd f n x))), (b, .inl (Y.2 0, 256, .inl (upd g (128 + n) (th_ls x))))] := hD
  refine lv_iconst (v := nI 0) hx hb dX2_add_59 (by decide) ?_
  refine lv_istore_n (lv' := [(3, .int (nI 0)), (2, .int (nI (128 + n))), (0, .ref v), (1, .int x)]) hx hb dX2_add_60 rfl hl (by decide) rfl (fun ls hl => ?_)
  have lp_2 : ∀ (n_3 : Nat) (q : Nat) (lev : Nat) (g : Nat → Int32) (H : Heap) (locs : List Loc) (ls : Array Slot), 7 - lev < n_3 → (lev ≤ 7) → (q = (128 + n) / 2 ^ lev) → ((n + 1) % 2 ^ lev = 0) → (th_BJ (upd f n x) g n lev) → va_P Y.1 vwCl [(v, .inr (2, [.int (nI (n + 1)), .ref a, .ref b])), (a, .inl (Y.2 0, 100, .inl (upd f n x))), (b, .inl (Y.2 0, 256, .inl g))] H → va_D (fun z => z ∈ [v, a, b]) [(v, .inr (2, [.int (nI (n + 1)), .ref a, .ref b])), (a, .inl (Y.2 0, 100, .inl (upd f n x))), (b, .inl (Y.2 0, 256, .inl g))] → va_S (fun z => z ∈ [v, a, b]) H0 H locs → lv_has ls 4 [(0, .ref v), (1, .int x), (2, .int (nI q)), (3, .int (nI lev))] → W p l e (th_rm 1 0 0) s m args below meth c H locs 0 0 Q (F0 m 61 ls []) := by
    intro n_3; induction n_3 with
    | zero => intros; exfalso; omega
    | succ n_3 ih =>
      intro q lev g H locs ls hmz hlev hq hm hJ hP hD hS hl
      have h5 : q ≤ 128 + n := by rw [hq]; exact Nat.div_le_self _ _
      refine lv_iload_n hx hb dX2_add_61 rfl (lv_at hl 3 rfl) ?_
      refine lv_bipush (v := nI 7) hx hb dX2_add_62 (by decide) ?_
      refine th_ige (tgt := 109) hx hb dX2_add_64 (by decide) (by omega) (by omega) (fun c_4 => ?_) (fun c_4 => ?_)
      · skip
        refine th_vret hx hb hr hlk hQ hS dX2_add_109 (Nat.le_of_ble_eq_true rfl) (Nat.le_of_ble_eq_true rfl) ?_
        exact ⟨rfl, g, hP, th_BJ_e hn hlev hJ hq (by omega) hm⟩
      refine lv_iload_n hx hb dX2_add_67 rfl (lv_at hl 2 rfl) ?_
      refine lv_iconst (v := nI 1) hx hb dX2_add_68 (by decide) ?_
      refine lv_iand hx hb dX2_add_69 ?_
      refine th_ti (show (nI q) &&& (nI 1) = nI (q % 2) from pk_andN (by omega) 1 (by decide)) ?_
      refine lv_iconst (v := nI 1) hx hb dX2_add_70 (by decide) ?_
      refine th_ine (tgt := 109) hx hb dX2_add_71 (by decide) (by omega) (by omega) (fun c_5 => ?_) (fun c_5 => ?_)
      · skip
        refine th_vret hx hb hr hlk hQ hS dX2_add_109 (Nat.le_of_ble_eq_true rfl) (Nat.le_of_ble_eq_true rfl) ?_
        exact ⟨rfl, g, hP, th_BJ_e hn hlev hJ hq (by omega) hm⟩
      obtain ⟨k1, k2, k3⟩ := th_BJ_s hn (show lev < 7 by omega) hJ hq c_5 hm
      refine lv_aload_n hx hb dX2_add_74 rfl (lv_at hl 0 rfl) ?_
      refine va_get (D := Y.1) (ci := 2) (v := .ref b) (C := RX2) (T := TX2) (N := 3) hx hb hts inX2 hown hK hP 0 rfl rfl 2 (by decide) (hts _ tw_1_96) (fun _ h9 => h9) rfl dX2_add_75 ?_
      refine lv_iload_n hx hb dX2_add_78 rfl (lv_at hl 2 rfl) ?_
      refine lv_iconst (v := nI 1) hx hb dX2_add_79 (by decide) ?_
      refine lv_ishr hx hb dX2_add_80 ?_
      refine th_ti (show (nI q) >>> ((nI 1) &&& 31) = nI (q / 2) from pk_shrN (by omega) _ 1 (by decide)) ?_
      refine lv_aload_n hx hb dX2_add_81 rfl (lv_at hl 0 rfl) ?_
      refine va_get (D := Y.1) (ci := 2) (v := .ref b) (C := RX2) (T := TX2) (N := 3) hx hb hts inX2 hown hK hP 0 rfl rfl 2 (by decide) (hts _ tw_1_96) (fun _ h9 => h9) rfl dX2_add_82 ?_
      refine lv_iload_n hx hb dX2_add_85 rfl (lv_at hl 2 rfl) ?_
      refine lv_iconst (v := nI 1) hx hb dX2_add_86 (by decide) ?_
      refine lv_isub hx hb dX2_add_87 ?_
      refine th_ti (pk_sub (by omega)) ?_
      refine th_iald hx hb hK hP 2 rfl (j := (q - 1)) (by omega) (by omega) dX2_add_88 ?_
      refine lv_aload_n hx hb dX2_add_89 rfl (lv_at hl 0 rfl) ?_
      refine va_get (D := Y.1) (ci := 2) (v := .ref b) (C := RX2) (T := TX2) (N := 3) hx hb hts inX2 hown hK hP 0 rfl rfl 2 (by decide) (hts _ tw_1_96) (fun _ h9 => h9) rfl dX2_add_90 ?_
      refine lv_iload_n hx hb dX2_add_93 rfl (lv_at hl 2 rfl) ?_
      refine th_iald hx hb hK hP 2 rfl (j := q) (by omega) (by omega) dX2_add_94 ?_
      refine th_callSN hx hb hml hown hts ⟨hK, hN⟩ hl hS (rest := [.int (nI (q / 2)), .ref b]) (c_X5_mix l Y _ (g (q - 1)) (g q)) ok_X5_mix (tn_2_56 hN) dX2_add_95 rfl rfl (Nat.le_of_ble_eq_true rfl) ⟨Nat.le_of_ble_eq_true rfl, Nat.le_of_ble_eq_true rfl⟩ ⟨Nat.le_of_ble_eq_true rfl, Nat.le_of_ble_eq_true rfl⟩ (fun _ h => h.elim) (th_kpi (fun locs hS => ?_))
      refine th_iast hx hb hK hP hD hS 2 rfl (j := (q / 2)) (by omega) (by omega) dX2_add_98 (fun H locs hP hD hS => ?_)
      have hP : va_P Y.1 vwCl [(v, .inr (2, [.int (nI (n + 1)), .ref a, .ref b])), (a, .inl (Y.2 0, 100, .inl (upd f n x))), (b, .inl (Y.2 0, 256, .inl (upd g (q / 2) (th_mx (g (q - 1)) (g q)))))] _ := hP
      have hD : va_D _ [(v, .inr (2, [.int (nI (n + 1)), .ref a, .ref b])), (a, .inl (Y.2 0, 100, .inl (upd f n x))), (b, .inl (Y.2 0, 256, .inl (upd g (q / 2) (th_mx (g (q - 1)) (g q)))))] := hD
      refine lv_iload_n hx hb dX2_add_99 rfl (lv_at hl 2 rfl) ?_
      refine lv_iconst (v := nI 1) hx hb dX2_add_100 (by decide) ?_
      refine lv_ishr hx hb dX2_add_101 ?_
      refine th_ti (show (nI q) >>> ((nI 1) &&& 31) = nI (q / 2) from pk_shrN (by omega) _ 1 (by decide)) ?_
      refine lv_istore_n (lv' := [(2, .int (nI (q / 2))), (0, .ref v), (1, .int x), (3, .int (nI lev))]) hx hb dX2_add_102 rfl hl (by decide) rfl (fun ls hl => ?_)
      refine lv_iinc (v := nI (lev + 1)) (lv' := [(3, .int (nI (lev + 1))), (2, .int (nI (q / 2))), (0, .ref v), (1, .int x)]) hx hb dX2_add_103 hl (k := 3) rfl (nI_add _ 1) (by decide) rfl (fun ls hl => ?_)
      refine lv_goto (tgt := 61) hx hb dX2_add_106 (by decide) ?_
      exact ih (q / 2) (lev + 1) (upd g (q / 2) (th_mx (g (q - 1)) (g q))) _ _ _ (by omega) (by omega) (k2) (k3) (k1) hP hD hS (lv_sub hl [2, 3, 1, 0] rfl)
  exact lp_2 ((7 - (0)) + 1) (128 + n) (0) (upd g (128 + n) (th_ls x)) _ _ _ (Nat.lt_succ_self _) (by omega) (by rw [Nat.pow_zero, Nat.div_one]) (by rw [Nat.pow_zero, Nat.mod_one]) (th_BJ_0 x hn hB) hP hD hS (lv_sub hl [2, 3, 1, 0] rfl)
end
section
set_option maxRecDepth 100000 in
set_option maxHeartbeats 4000000 in
theorem c_X4_begin (l : Launch) (Y : th_Y) (H0 : Heap) (y a1 a2 a3 r F N T : Nat) (fr le fi : Nat → Int32) (hP : va_P Y.1 vwCl [(y, .inr (4, [.int (nI r), .ref a1, .ref a2, .ref a3, .int (nI F), .int (nI N), .int (nI T)])), (a1, .inl (Y.2 0, 12, .inl fr)), (a2, .inl (Y.2 0, 12, .inl le)), (a3, .inl (Y.2 1, 12, .inl fi))] H0) (hD0 : va_D (fun _ => True) [(y, .inr (4, [.int (nI r), .ref a1, .ref a2, .ref a3, .int (nI F), .int (nI N), .int (nI T)])), (a1, .inl (Y.2 0, 12, .inl fr)), (a2, .inl (Y.2 0, 12, .inl le)), (a3, .inl (Y.2 1, 12, .inl fi))]) (t n : Nat) : th_M l Y yX4_begin cX4_begin 3 none (th_rm 0 0 0) [.ref y, .int (nI t), .int (nI n)] H0 (fun z => z ∈ [y, a1, a2, a3]) (fun r H' => r = none ∧ va_P Y.1 vwCl [(y, .inr (4, [.int (nI 0), .ref a1, .ref a2, .ref a3, .int (nI 0), .int (nI n), .int (nI t)])), (a1, .inl (Y.2 0, 12, .inl fr)), (a2, .inl (Y.2 0, 12, .inl le)), (a3, .inl (Y.2 1, 12, .inl fi))] H') := by
  refine th_M.intro (by decide) (Nat.le_of_ble_eq_true rfl) ?_
  intro p e s m args below meth c ls Q hQ C hKN hl hS
  obtain ⟨hx, hb, hr, hml, hown, hts, hlk, hnm⟩ := C
  obtain ⟨hK, hN⟩ := hKN
  have hown : s.vm.findClass RX4 = some m.cls := hown
  have hl : lv_has ls 3 [(0, .ref y), (1, .int (nI t)), (2, .int (nI n))] := hl
  have hD : va_D (fun z => z ∈ [y, a1, a2, a3]) [(y, .inr (4, [.int (nI r), .ref a1, .ref a2, .ref a3, .int (nI F), .int (nI N), .int (nI T)])), (a1, .inl (Y.2 0, 12, .inl fr)), (a2, .inl (Y.2 0, 12, .inl le)), (a3, .inl (Y.2 1, 12, .inl fi))] := th_mem hD0
  refine lv_aload_n hx hb dX4_begin_0 rfl (lv_at hl 0 rfl) ?_
  refine lv_iconst (v := nI 0) hx hb dX4_begin_1 (by decide) ?_
  refine va_put (D := Y.1) (ci := 4) (v := .int (nI 0)) (ty := .int) (C := RX4) (T := TX4) (N := 7) hx hb hts inX4 tyX4 tyX4_ok nmX4 hown hK hP hD hS 0 rfl rfl 0 (by decide) (hts _ tw_1_39) (fun _ h9 => h9) rfl (by decide +kernel) rfl rfl (Nat.le_of_ble_eq_true rfl) dX4_begin_2 (fun H locs hP hD hS => ?_)
  have hP : va_P Y.1 vwCl [(y, .inr (4, [.int (nI 0), .ref a1, .ref a2, .ref a3, .int (nI F), .int (nI N), .int (nI T)])), (a1, .inl (Y.2 0, 12, .inl fr)), (a2, .inl (Y.2 0, 12, .inl le)), (a3, .inl (Y.2 1, 12, .inl fi))] _ := hP
  have hD : va_D _ [(y, .inr (4, [.int (nI 0), .ref a1, .ref a2, .ref a3, .int (nI F), .int (nI N), .int (nI T)])), (a1, .inl (Y.2 0, 12, .inl fr)), (a2, .inl (Y.2 0, 12, .inl le)), (a3, .inl (Y.2 1, 12, .inl fi))] := hD
  refine lv_aload_n hx hb dX4_begin_5 rfl (lv_at hl 0 rfl) ?_
  refine lv_iconst (v := nI 0) hx hb dX4_begin_6 (by decide) ?_
  refine va_put (D := Y.1) (ci := 4) (v := .int (nI 0)) (ty := .int) (C := RX4) (T := TX4) (N := 7) hx hb hts inX4 tyX4 tyX4_ok nmX4 hown hK hP hD hS 0 rfl rfl 4 (by decide) (hts _ tw_1_43) (fun _ h9 => h9) rfl (by decide +kernel) rfl rfl (Nat.le_of_ble_eq_true rfl) dX4_begin_7 (fun H locs hP hD hS => ?_)
  have hP : va_P Y.1 vwCl [(y, .inr (4, [.int (nI 0), .ref a1, .ref a2, .ref a3, .int (nI 0), .int (nI N), .int (nI T)])), (a1, .inl (Y.2 0, 12, .inl fr)), (a2, .inl (Y.2 0, 12, .inl le)), (a3, .inl (Y.2 1, 12, .inl fi))] _ := hP
  have hD : va_D _ [(y, .inr (4, [.int (nI 0), .ref a1, .ref a2, .ref a3, .int (nI 0), .int (nI N), .int (nI T)])), (a1, .inl (Y.2 0, 12, .inl fr)), (a2, .inl (Y.2 0, 12, .inl le)), (a3, .inl (Y.2 1, 12, .inl fi))] := hD
  refine lv_aload_n hx hb dX4_begin_10 rfl (lv_at hl 0 rfl) ?_
  refine lv_iload_n hx hb dX4_begin_11 rfl (lv_at hl 2 rfl) ?_
  refine va_put (D := Y.1) (ci := 4) (v := .int (nI n)) (ty := .int) (C := RX4) (T := TX4) (N := 7) hx hb hts inX4 tyX4 tyX4_ok nmX4 hown hK hP hD hS 0 rfl rfl 5 (by decide) (hts _ tw_1_44) (fun _ h9 => h9) rfl (by decide +kernel) rfl rfl (Nat.le_of_ble_eq_true rfl) dX4_begin_12 (fun H locs hP hD hS => ?_)
  have hP : va_P Y.1 vwCl [(y, .inr (4, [.int (nI 0), .ref a1, .ref a2, .ref a3, .int (nI 0), .int (nI n), .int (nI T)])), (a1, .inl (Y.2 0, 12, .inl fr)), (a2, .inl (Y.2 0, 12, .inl le)), (a3, .inl (Y.2 1, 12, .inl fi))] _ := hP
  have hD : va_D _ [(y, .inr (4, [.int (nI 0), .ref a1, .ref a2, .ref a3, .int (nI 0), .int (nI n), .int (nI T)])), (a1, .inl (Y.2 0, 12, .inl fr)), (a2, .inl (Y.2 0, 12, .inl le)), (a3, .inl (Y.2 1, 12, .inl fi))] := hD
  refine lv_aload_n hx hb dX4_begin_15 rfl (lv_at hl 0 rfl) ?_
  refine lv_iload_n hx hb dX4_begin_16 rfl (lv_at hl 1 rfl) ?_
  refine va_put (D := Y.1) (ci := 4) (v := .int (nI t)) (ty := .int) (C := RX4) (T := TX4) (N := 7) hx hb hts inX4 tyX4 tyX4_ok nmX4 hown hK hP hD hS 0 rfl rfl 6 (by decide) (hts _ tw_1_45) (fun _ h9 => h9) rfl (by decide +kernel) rfl rfl (Nat.le_of_ble_eq_true rfl) dX4_begin_17 (fun H locs hP hD hS => ?_)
  have hP : va_P Y.1 vwCl [(y, .inr (4, [.int (nI 0), .ref a1, .ref a2, .ref a3, .int (nI 0), .int (nI n), .int (nI t)])), (a1, .inl (Y.2 0, 12, .inl fr)), (a2, .inl (Y.2 0, 12, .inl le)), (a3, .inl (Y.2 1, 12, .inl fi))] _ := hP
  have hD : va_D _ [(y, .inr (4, [.int (nI 0), .ref a1, .ref a2, .ref a3, .int (nI 0), .int (nI n), .int (nI t)])), (a1, .inl (Y.2 0, 12, .inl fr)), (a2, .inl (Y.2 0, 12, .inl le)), (a3, .inl (Y.2 1, 12, .inl fi))] := hD
  refine th_vret hx hb hr hlk hQ hS dX4_begin_20 (Nat.le_of_ble_eq_true rfl) (Nat.le_of_ble_eq_true rfl) ?_
  exact ⟨rfl, hP⟩

set_option maxRecDepth 100000 in
set_option maxHeartbeats 4000000 in
theorem c_X4_leaveBeside (l : Launch) (Y : th_Y) (H0 : Heap) (y a1 a2 a3 r F N T : Nat) (fr le fi : Nat → Int32) (hP : va_P Y.1 vwCl [(y, .inr (4, [.int (nI r), .ref a1, .ref a2, .ref a3, .int (nI F), .int (nI N), .int (nI T)])), (a1, .inl (Y.2 0, 12, .inl fr)), (a2, .inl (Y.2 0, 12, .inl le)), (a3, .inl (Y.2 1, 12, .inl fi))] H0) (hD0 : va_D (fun _ => True) [(y, .inr (4, [.int (nI r), .ref a1, .ref a2, .ref a3, .int (nI F), .int (nI N), .int (nI T)])), (a1, .inl (Y.2 0, 12, .inl fr)), (a2, .inl (Y.2 0, 12, .inl le)), (a3, .inl (Y.2 1, 12, .inl fi))]) (bf bn : Nat) (x : Int32) (hx : x = 0 ∨ x = 1) (hr12 : r < 12) : th_M l Y yX4_leaveBeside cX4_leaveBeside 4 none (th_rm 0 0 0) [.ref y, .int (nI bf), .int (nI bn), .int x] H0 (fun z => z ∈ [y, a1, a2, a3]) (fun r' H' => r' = none ∧ va_P Y.1 vwCl [(y, .inr (4, [.int (nI (r + 1)), .ref a1, .ref a2, .ref a3, .int (nI F), .int (nI N), .int (nI T)])), (a1, .inl (Y.2 0, 12, .inl (upd fr r (nI bf)))), (a2, .inl (Y.2 0, 12, .inl (upd le r (nI bn)))), (a3, .inl (Y.2 1, 12, .inl (upd fi r x)))] H') := by
  refine th_M.intro (by decide) (Nat.le_of_ble_eq_true rfl) ?_
  intro p e s m args below meth c ls Q hQ C hKN hl hS
  obtain ⟨hx, hb, hr, hml, hown, hts, hlk, hnm⟩ := C
  obtain ⟨hK, hN⟩ := hKN
  have hown : s.vm.findClass RX4 = some m.cls := hown
  have hl : lv_has ls 4 [(0, .ref y), (1, .int (nI bf)), (2, .int (nI bn)), (3, .int x)] := hl
  have hD : va_D (fun z => z ∈ [y, a1, a2, a3]) [(y, .inr (4, [.int (nI r), .ref a1, .ref a2, .ref a3, .int (nI F), .int (nI N), .int (nI T)])), (a1, .inl (Y.2 0, 12, .inl fr)), (a2, .inl (Y.2 0, 12, .inl le)), (a3, .inl (Y.2 1, 12, .inl fi))] := th_mem hD0
  refine lv_aload_n hx hb dX4_leaveBeside_0 rfl (lv_at hl 0 rfl) ?_
  refine va_get (D := Y.1) (ci := 4) (v := .int (nI r)) (C := RX4) (T := TX4) (N := 7) hx hb hts inX4 hown hK hP 0 rfl rfl 0 (by decide) (hts _ tw_1_39) (fun _ h9 => h9) rfl dX4_leaveBeside_1 ?_
  refine th_zlt (tgt := 16) hx hb dX4_leaveBeside_4 (by decide) (by omega) ?_
  refine lv_aload_n hx hb dX4_leaveBeside_7 rfl (lv_at hl 0 rfl) ?_
  refine va_get (D := Y.1) (ci := 4) (v := .int (nI r)) (C := RX4) (T := TX4) (N := 7) hx hb hts inX4 hown hK hP 0 rfl rfl 0 (by decide) (hts _ tw_1_39) (fun _ h9 => h9) rfl dX4_leaveBeside_8 ?_
  refine lv_bipush (v := nI 12) hx hb dX4_leaveBeside_11 (by decide) ?_
  refine th_ilt (tgt := 17) hx hb dX4_leaveBeside_13 (by decide) (by omega) (by omega) (fun c_1 => ?_) (fun c_1 => by exfalso; omega)
  refine lv_aload_n hx hb dX4_leaveBeside_17 rfl (lv_at hl 0 rfl) ?_
  refine va_get (D := Y.1) (ci := 4) (v := .ref a1) (C := RX4) (T := TX4) (N := 7) hx hb hts inX4 hown hK hP 0 rfl rfl 1 (by decide) (hts _ tw_1_40) (fun _ h9 => h9) rfl dX4_leaveBeside_18 ?_
  refine lv_aload_n hx hb dX4_leaveBeside_21 rfl (lv_at hl 0 rfl) ?_
  refine va_get (D := Y.1) (ci := 4) (v := .int (nI r)) (C := RX4) (T := TX4) (N := 7) hx hb hts inX4 hown hK hP 0 rfl rfl 0 (by decide) (hts _ tw_1_39) (fun _ h9 => h9) rfl dX4_leaveBeside_22 ?_
  refine lv_iload_n hx hb dX4_leaveBeside_25 rfl (lv_at hl 1 rfl) ?_
  refine th_iast hx hb hK hP hD hS 1 rfl (j := r) (by omega) (by omega) dX4_leaveBeside_26 (fun H locs hP hD hS => ?_)
  have hP : va_P Y.1 vwCl [(y, .inr (4, [.int (nI r), .ref a1, .ref a2, .ref a3, .int (nI F), .int (nI N), .int (nI T)])), (a1, .inl (Y.2 0, 12, .inl (upd fr r (nI bf)))), (a2, .inl (Y.2 0, 12, .inl le)), (a3, .inl (Y.2 1, 12, .inl fi))] _ := hP
  have hD : va_D _ [(y, .inr (4, [.int (nI r), .ref a1, .ref a2, .ref a3, .int (nI F), .int (nI N), .int (nI T)])), (a1, .inl (Y.2 0, 12, .inl (upd fr r (nI bf)))), (a2, .inl (Y.2 0, 12, .inl le)), (a3, .inl (Y.2 1, 12, .inl fi))] := hD
  refine lv_aload_n hx hb dX4_leaveBeside_27 rfl (lv_at hl 0 rfl) ?_
  refine va_get (D := Y.1) (ci := 4) (v := .ref a2) (C := RX4) (T := TX4) (N := 7) hx hb hts inX4 hown hK hP 0 rfl rfl 2 (by decide) (hts _ tw_1_41) (fun _ h9 => h9) rfl dX4_leaveBeside_28 ?_
  refine lv_aload_n hx hb dX4_leaveBeside_31 rfl (lv_at hl 0 rfl) ?_
  refine va_get (D := Y.1) (ci := 4) (v := .int (nI r)) (C := RX4) (T := TX4) (N := 7) hx hb hts inX4 hown hK hP 0 rfl rfl 0 (by decide) (hts _ tw_1_39) (fun _ h9 => h9) rfl dX4_leaveBeside_32 ?_
  refine lv_iload_n hx hb dX4_leaveBeside_35 rfl (lv_at hl 2 rfl) ?_
  refine th_iast hx hb hK hP hD hS 2 rfl (j := r) (by omega) (by omega) dX4_leaveBeside_36 (fun H locs hP hD hS => ?_)
  have hP : va_P Y.1 vwCl [(y, .inr (4, [.int (nI r), .ref a1, .ref a2, .ref a3, .int (nI F), .int (nI N), .int (nI T)])), (a1, .inl (Y.2 0, 12, .inl (upd fr r (nI bf)))), (a2, .inl (Y.2 0, 12, .inl (upd le r (nI bn)))), (a3, .inl (Y.2 1, 12, .inl fi))] _ := hP
  have hD : va_D _ [(y, .inr (4, [.int (nI r), .ref a1, .ref a2, .ref a3, .int (nI F), .int (nI N), .int (nI T)])), (a1, .inl (Y.2 0, 12, .inl (upd fr r (nI bf)))), (a2, .inl (Y.2 0, 12, .inl (upd le r (nI bn)))), (a3, .inl (Y.2 1, 12, .inl fi))] := hD
  refine lv_aload_n hx hb dX4_leaveBeside_37 rfl (lv_at hl 0 rfl) ?_
  refine va_get (D := Y.1) (ci := 4) (v := .ref a3) (C := RX4) (T := TX4) (N := 7) hx hb hts inX4 hown hK hP 0 rfl rfl 3 (by decide) (hts _ tw_1_42) (fun _ h9 => h9) rfl dX4_leaveBeside_38 ?_
  refine lv_aload_n hx hb dX4_leaveBeside_41 rfl (lv_at hl 0 rfl) ?_
  refine va_get (D := Y.1) (ci := 4) (v := .int (nI r)) (C := RX4) (T := TX4) (N := 7) hx hb hts inX4 hown hK hP 0 rfl rfl 0 (by decide) (hts _ tw_1_39) (fun _ h9 => h9) rfl dX4_leaveBeside_42 ?_
  refine lv_iload_n hx hb dX4_leaveBeside_45 rfl (lv_at hl 3 rfl) ?_
  refine th_zast hx hb hK hP hD hS 3 rfl (j := r) (by omega) (by omega) (by first | exact Or.inl rfl | exact Or.inr rfl | assumption) dX4_leaveBeside_46 (fun H locs hP hD hS => ?_)
  have hP : va_P Y.1 vwCl [(y, .inr (4, [.int (nI r), .ref a1, .ref a2, .ref a3, .int (nI F), .int (nI N), .int (nI T)])), (a1, .inl (Y.2 0, 12, .inl (upd fr r (nI bf)))), (a2, .inl (Y.2 0, 12, .inl (upd le r (nI bn)))), (a3, .inl (Y.2 1, 12, .inl (upd fi r x)))] _ := hP
  have hD : va_D _ [(y, .inr (4, [.int (nI r), .ref a1, .ref a2, .ref a3, .int (nI F), .int (nI N), .int (nI T)])), (a1, .inl (Y.2 0, 12, .inl (upd fr r (nI bf)))), (a2, .inl (Y.2 0, 12, .inl (upd le r (nI bn)))), (a3, .inl (Y.2 1, 12, .inl (upd fi r x)))] := hD
  refine lv_aload_n hx hb dX4_leaveBeside_47 rfl (lv_at hl 0 rfl) ?_
  refine lv_dup hx hb dX4_leaveBeside_48 rfl ?_
  refine va_get (D := Y.1) (ci := 4) (v := .int (nI r)) (C := RX4) (T := TX4) (N := 7) hx hb hts inX4 hown hK hP 0 rfl rfl 0 (by decide) (hts _ tw_1_39) (fun _ h9 => h9) rfl dX4_leaveBeside_49 ?_
  refine lv_iconst (v := nI 1) hx hb dX4_leaveBeside_52 (by decide) ?_
  refine lv_iadd hx hb dX4_leaveBeside_53 ?_
  refine th_ti (nI_add _ _) ?_
  refine va_put (D := Y.1) (ci := 4) (v := .int (nI (r + 1))) (ty := .int) (C := RX4) (T := TX4) (N := 7) hx hb hts inX4 tyX4 tyX4_ok nmX4 hown hK hP hD hS 0 rfl rfl 0 (by decide) (hts _ tw_1_39) (fun _ h9 => h9) rfl (by decide +kernel) rfl rfl (Nat.le_of_ble_eq_true rfl) dX4_leaveBeside_54 (fun H locs hP hD hS => ?_)
  have hP : va_P Y.1 vwCl [(y, .inr (4, [.int (nI (r + 1)), .ref a1, .ref a2, .ref a3, .int (nI F), .int (nI N), .int (nI T)])), (a1, .inl (Y.2 0, 12, .inl (upd fr r (nI bf)))), (a2, .inl (Y.2 0, 12, .inl (upd le r (nI bn)))), (a3, .inl (Y.2 1, 12, .inl (upd fi r x)))] _ := hP
  have hD : va_D _ [(y, .inr (4, [.int (nI (r + 1)), .ref a1, .ref a2, .ref a3, .int (nI F), .int (nI N), .int (nI T)])), (a1, .inl (Y.2 0, 12, .inl (upd fr r (nI bf)))), (a2, .inl (Y.2 0, 12, .inl (upd le r (nI bn)))), (a3, .inl (Y.2 1, 12, .inl (upd fi r x)))] := hD
  refine th_vret hx hb hr hlk hQ hS dX4_leaveBeside_57 (Nat.le_of_ble_eq_true rfl) (Nat.le_of_ble_eq_true rfl) ?_
  exact ⟨rfl, hP⟩

set_option maxRecDepth 100000 in
set_option maxHeartbeats 4000000 in
theorem c_X4_goDown (l : Launch) (Y : th_Y) (H0 : Heap) (y a1 a2 a3 r F N T : Nat) (fr le fi : Nat → Int32) (hP : va_P Y.1 vwCl [(y, .inr (4, [.int (nI r), .ref a1, .ref a2, .ref a3, .int (nI F), .int (nI N), .int (nI T)])), (a1, .inl (Y.2 0, 12, .inl fr)), (a2, .inl (Y.2 0, 12, .inl le)), (a3, .inl (Y.2 1, 12, .inl fi))] H0) (hD0 : va_D (fun _ => True) [(y, .inr (4, [.int (nI r), .ref a1, .ref a2, .ref a3, .int (nI F), .int (nI N), .int (nI T)])), (a1, .inl (Y.2 0, 12, .inl fr)), (a2, .inl (Y.2 0, 12, .inl le)), (a3, .inl (Y.2 1, 12, .inl fi))]) (h2 : 2 ≤ N) (h128 : N ≤ 128) (hT : T < N) (hF : F + N ≤ 200) (hr12 : r < 12) : th_M l Y yX4_goDown cX4_goDown 2 none (th_rm 1 0 0) [.ref y] H0 (fun z => z ∈ [y, a1, a2, a3]) (fun r' H' => r' = none ∧ va_P Y.1 vwCl [(y, .inr (4, [.int (nI (r + 1)), .ref a1, .ref a2, .ref a3, .int (nI ((th_nx (F, N, T)).1)), .int (nI ((th_nx (F, N, T)).2.1)), .int (nI ((th_nx (F, N, T)).2.2))])), (a1, .inl (Y.2 0, 12, .inl (upd fr r (nI (th_bf (F, N, T)))))), (a2, .inl (Y.2 0, 12, .inl (upd le r (nI (th_bn (F, N, T)))))), (a3, .inl (Y.2 1, 12, .inl (upd fi r (th_fi (F, N, T)))))] H') := by
  refine th_M.intro (by decide) (Nat.le_of_ble_eq_true rfl) ?_
  intro p e s m args below meth c ls Q hQ C hKN hl hS
  obtain ⟨hx, hb, hr, hml, hown, hts, hlk, hnm⟩ := C
  obtain ⟨hK, hN⟩ := hKN
  have hown : s.vm.findClass RX4 = some m.cls := hown
  have hl : lv_has ls 2 [(0, .ref y)] := hl
  have hD : va_D (fun z => z ∈ [y, a1, a2, a3]) [(y, .inr (4, [.int (nI r), .ref a1, .ref a2, .ref a3, .int (nI F), .int (nI N), .int (nI T)])), (a1, .inl (Y.2 0, 12, .inl fr)), (a2, .inl (Y.2 0, 12, .inl le)), (a3, .inl (Y.2 1, 12, .inl fi))] := th_mem hD0
  refine lv_aload_n hx hb dX4_goDown_0 rfl (lv_at hl 0 rfl) ?_
  refine va_get (D := Y.1) (ci := 4) (v := .int (nI N)) (C := RX4) (T := TX4) (N := 7) hx hb hts inX4 hown hK hP 0 rfl rfl 5 (by decide) (hts _ tw_1_44) (fun _ h9 => h9) rfl dX4_goDown_1 ?_
  refine th_callS hx hb hml hown hts ⟨hK, hN⟩ hl hS (rest := []) (c_X2_greatestPowerBelow l Y _ N (by omega) (by omega)) ok_X2_greatestPowerBelow tw_2_155 dX4_goDown_4 rfl rfl (Nat.le_of_ble_eq_true rfl) ⟨Nat.le_of_ble_eq_true rfl, Nat.le_of_ble_eq_true rfl⟩ ⟨Nat.le_of_ble_eq_true rfl, Nat.le_of_ble_eq_true rfl⟩ (fun _ h => h.elim) (th_kpi (fun locs hS => ?_))
  refine lv_istore_n (lv' := [(1, .int (nI (th_sp N))), (0, .ref y)]) hx hb dX4_goDown_7 rfl hl (by decide) rfl (fun ls hl => ?_)
  have s1 := th_sp_lt h2
  have s2 := th_sp_pos N
  refine lv_aload_n hx hb dX4_goDown_8 rfl (lv_at hl 1 rfl) ?_
  refine va_get (D := Y.1) (ci := 4) (v := .int (nI T)) (C := RX4) (T := TX4) (N := 7) hx hb hts inX4 hown hK hP 0 rfl rfl 6 (by decide) (hts _ tw_1_45) (fun _ h9 => h9) rfl dX4_goDown_9 ?_
  refine lv_iload_n hx hb dX4_goDown_12 rfl (lv_at hl 0 rfl) ?_
  refine th_ige (tgt := 41) hx hb dX4_goDown_13 (by decide) (by omega) (by omega) (fun c_1 => ?_) (fun c_1 => ?_)
  · skip
    refine lv_aload_n hx hb dX4_goDown_41 rfl (lv_at hl 1 rfl) ?_
    refine lv_aload_n hx hb dX4_goDown_42 rfl (lv_at hl 1 rfl) ?_
    refine va_get (D := Y.1) (ci := 4) (v := .int (nI F)) (C := RX4) (T := TX4) (N := 7) hx hb hts inX4 hown hK hP 0 rfl rfl 4 (by decide) (hts _ tw_1_43) (fun _ h9 => h9) rfl dX4_goDown_43 ?_
    refine lv_iload_n hx hb dX4_goDown_46 rfl (lv_at hl 0 rfl) ?_
    refine lv_iconst (v := nI 1) hx hb dX4_goDown_47 (by decide) ?_
    refine th_callV hx hb hml hown hts ⟨hK, hN⟩ hl hS (hP 0 _ rfl) rfl (rest := []) (c_X4_leaveBeside l Y _ y a1 a2 a3 r F N T fr le fi hP ((hD.sub (ws' := [(y, .inr (4, [.int (nI r), .ref a1, .ref a2, .ref a3, .int (nI F), .int (nI N), .int (nI T)])), (a1, .inl (Y.2 0, 12, .inl fr)), (a2, .inl (Y.2 0, 12, .inl le)), (a3, .inl (Y.2 1, 12, .inl fi))]) [0, 1, 2, 3] (by decide) rfl).weaken (fun _ _ _ _ => trivial)) F (th_sp N) (nI 1) (by first | exact Or.inl rfl | exact Or.inr rfl) (by omega)) ok_X4_leaveBeside tw_2_156 dX4_goDown_48 rfl rfl (Nat.le_of_ble_eq_true rfl) ⟨Nat.le_of_ble_eq_true rfl, Nat.le_of_ble_eq_true rfl⟩ ⟨Nat.le_of_ble_eq_true rfl, Nat.le_of_ble_eq_true rfl⟩ (fun z hz => by simp only [List.mem_cons, List.not_mem_nil, or_false] at hz ⊢; omega) (th_kv (fun H locs hp hsm hS => ?_))
    have hPc := hp
    have hP : va_P Y.1 vwCl [(y, .inr (4, [.int (nI (r + 1)), .ref a1, .ref a2, .ref a3, .int (nI F), .int (nI N), .int (nI T)])), (a1, .inl (Y.2 0, 12, .inl (upd fr r (nI F)))), (a2, .inl (Y.2 0, 12, .inl (upd le r (nI (th_sp N))))), (a3, .inl (Y.2 1, 12, .inl (upd fi r (nI 1))))] _ := hPc
    have hD : va_D _ [(y, .inr (4, [.int (nI (r + 1)), .ref a1, .ref a2, .ref a3, .int (nI F), .int (nI N), .int (nI T)])), (a1, .inl (Y.2 0, 12, .inl (upd fr r (nI F)))), (a2, .inl (Y.2 0, 12, .inl (upd le r (nI (th_sp N))))), (a3, .inl (Y.2 1, 12, .inl (upd fi r (nI 1))))] := th_Dsame hD rfl
    refine lv_aload_n hx hb dX4_goDown_51 rfl (lv_at hl 1 rfl) ?_
    refine lv_dup hx hb dX4_goDown_52 rfl ?_
    refine va_get (D := Y.1) (ci := 4) (v := .int (nI F)) (C := RX4) (T := TX4) (N := 7) hx hb hts inX4 hown hK hP 0 rfl rfl 4 (by decide) (hts _ tw_1_43) (fun _ h9 => h9) rfl dX4_goDown_53 ?_
    refine lv_iload_n hx hb dX4_goDown_56 rfl (lv_at hl 0 rfl) ?_
    refine lv_iadd hx hb dX4_goDown_57 ?_
    refine th_ti (nI_add _ _) ?_
    refine va_put (D := Y.1) (ci := 4) (v := .int (nI (F + (th_sp N)))) (ty := .int) (C := RX4) (T := TX4) (N := 7) hx hb hts inX4 tyX4 tyX4_ok nmX4 hown hK hP hD hS 0 rfl rfl 4 (by decide) (hts _ tw_1_43) (fun _ h9 => h9) rfl (by decide +kernel) rfl rfl (Nat.le_of_ble_eq_true rfl) dX4_goDown_58 (fun H locs hP hD hS => ?_)
    have hP : va_P Y.1 vwCl [(y, .inr (4, [.int (nI (r + 1)), .ref a1, .ref a2, .ref a3, .int (nI (F + (th_sp N))), .int (nI N), .int (nI T)])), (a1, .inl (Y.2 0, 12, .inl (upd fr r (nI F)))), (a2, .inl (Y.2 0, 12, .inl (upd le r (nI (th_sp N))))), (a3, .inl (Y.2 1, 12, .inl (upd fi r (nI 1))))] _ := hP
    have hD : va_D _ [(y, .inr (4, [.int (nI (r + 1)), .ref a1, .ref a2, .ref a3, .int (nI (F + (th_sp N))), .int (nI N), .int (nI T)])), (a1, .inl (Y.2 0, 12, .inl (upd fr r (nI F)))), (a2, .inl (Y.2 0, 12, .inl (upd le r (nI (th_sp N))))), (a3, .inl (Y.2 1, 12, .inl (upd fi r (nI 1))))] := hD
    refine lv_aload_n hx hb dX4_goDown_61 rfl (lv_at hl 1 rfl) ?_
    refine lv_dup hx hb dX4_goDown_62 rfl ?_
    refine va_get (D := Y.1) (ci := 4) (v := .int (nI N)) (C := RX4) (T := TX4) (N := 7) hx hb hts inX4 hown hK hP 0 rfl rfl 5 (by decide) (hts _ tw_1_44) (fun _ h9 => h9) rfl dX4_goDown_63 ?_
    refine lv_iload_n hx hb dX4_goDown_66 rfl (lv_at hl 0 rfl) ?_
    refine lv_isub hx hb dX4_goDown_67 ?_
    refine th_ti (pk_sub (by omega)) ?_
    refine va_put (D := Y.1) (ci := 4) (v := .int (nI (N - (th_sp N)))) (ty := .int) (C := RX4) (T := TX4) (N := 7) hx hb hts inX4 tyX4 tyX4_ok nmX4 hown hK hP hD hS 0 rfl rfl 5 (by decide) (hts _ tw_1_44) (fun _ h9 => h9) rfl (by decide +kernel) rfl rfl (Nat.le_of_ble_eq_true rfl) dX4_goDown_68 (fun H locs hP hD hS => ?_)
    have hP : va_P Y.1 vwCl [(y, .inr (4, [.int (nI (r + 1)), .ref a1, .ref a2, .ref a3, .int (nI (F + (th_sp N))), .int (nI (N - (th_sp N))), .int (nI T)])), (a1, .inl (Y.2 0, 12, .inl (upd fr r (nI F)))), (a2, .inl (Y.2 0, 12, .inl (upd le r (nI (th_sp N))))), (a3, .inl (Y.2 1, 12, .inl (upd fi r (nI 1))))] _ := hP
    have hD : va_D _ [(y, .inr (4, [.int (nI (r + 1)), .ref a1, .ref a2, .ref a3, .int (nI (F + (th_sp N))), .int (nI (N - (th_sp N))), .int (nI T)])), (a1, .inl (Y.2 0, 12, .inl (upd fr r (nI F)))), (a2, .inl (Y.2 0, 12, .inl (upd le r (nI (th_sp N))))), (a3, .inl (Y.2 1, 12, .inl (upd fi r (nI 1))))] := hD
    refine lv_aload_n hx hb dX4_goDown_71 rfl (lv_at hl 1 rfl) ?_
    refine lv_dup hx hb dX4_goDown_72 rfl ?_
    refine va_get (D := Y.1) (ci := 4) (v := .int (nI T)) (C := RX4) (T := TX4) (N := 7) hx hb hts inX4 hown hK hP 0 rfl rfl 6 (by decide) (hts _ tw_1_45) (fun _ h9 => h9) rfl dX4_goDown_73 ?_
    refine lv_iload_n hx hb dX4_goDown_76 rfl (lv_at hl 0 rfl) ?_
    refine lv_isub hx hb dX4_goDown_77 ?_
    refine th_ti (pk_sub (by omega)) ?_
    refine va_put (D := Y.1) (ci := 4) (v := .int (nI (T - (th_sp N)))) (ty := .int) (C := RX4) (T := TX4) (N := 7) hx hb hts inX4 tyX4 tyX4_ok nmX4 hown hK hP hD hS 0 rfl rfl 6 (by decide) (hts _ tw_1_45) (fun _ h9 => h9) rfl (by decide +kernel) rfl rfl (Nat.le_of_ble_eq_true rfl) dX4_goDown_78 (fun H locs hP hD hS => ?_)
    have hP : va_P Y.1 vwCl [(y, .inr (4, [.int (nI (r + 1)), .ref a1, .ref a2, .ref a3, .int (nI (F + (th_sp N))), .int (nI (N - (th_sp N))), .int (nI (T - (th_sp N)))])), (a1, .inl (Y.2 0, 12, .inl (upd fr r (nI F)))), (a2, .inl (Y.2 0, 12, .inl (upd le r (nI (th_sp N))))), (a3, .inl (Y.2 1, 12, .inl (upd fi r (nI 1))))] _ := hP
    have hD : va_D _ [(y, .inr (4, [.int (nI (r + 1)), .ref a1, .ref a2, .ref a3, .int (nI (F + (th_sp N))), .int (nI (N - (th_sp N))), .int (nI (T - (th_sp N)))])), (a1, .inl (Y.2 0, 12, .inl (upd fr r (nI F)))), (a2, .inl (Y.2 0, 12, .inl (upd le r (nI (th_sp N))))), (a3, .inl (Y.2 1, 12, .inl (upd fi r (nI 1))))] := hD
    refine th_vret hx hb hr hlk hQ hS dX4_goDown_81 (Nat.le_of_ble_eq_true rfl) (Nat.le_of_ble_eq_true rfl) ?_
    refine ⟨rfl, ?_⟩
    unfold th_nx th_bf th_bn th_fi
    dsimp only
    simp only [if_neg (Nat.not_lt.mpr c_1)]
    exact hP
  refine lv_aload_n hx hb dX4_goDown_16 rfl (lv_at hl 1 rfl) ?_
  refine lv_aload_n hx hb dX4_goDown_17 rfl (lv_at hl 1 rfl) ?_
  refine va_get (D := Y.1) (ci := 4) (v := .int (nI F)) (C := RX4) (T := TX4) (N := 7) hx hb hts inX4 hown hK hP 0 rfl rfl 4 (by decide) (hts _ tw_1_43) (fun _ h9 => h9) rfl dX4_goDown_18 ?_
  refine lv_iload_n hx hb dX4_goDown_21 rfl (lv_at hl 0 rfl) ?_
  refine lv_iadd hx hb dX4_goDown_22 ?_
  refine th_ti (nI_add _ _) ?_
  refine lv_aload_n hx hb dX4_goDown_23 rfl (lv_at hl 1 rfl) ?_
  refine va_get (D := Y.1) (ci := 4) (v := .int (nI N)) (C := RX4) (T := TX4) (N := 7) hx hb hts inX4 hown hK hP 0 rfl rfl 5 (by decide) (hts _ tw_1_44) (fun _ h9 => h9) rfl dX4_goDown_24 ?_
  refine lv_iload_n hx hb dX4_goDown_27 rfl (lv_at hl 0 rfl) ?_
  refine lv_isub hx hb dX4_goDown_28 ?_
  refine th_ti (pk_sub (by omega)) ?_
  refine lv_iconst (v := nI 0) hx hb dX4_goDown_29 (by decide) ?_
  refine th_callV hx hb hml hown hts ⟨hK, hN⟩ hl hS (hP 0 _ rfl) rfl (rest := []) (c_X4_leaveBeside l Y _ y a1 a2 a3 r F N T fr le fi hP ((hD.sub (ws' := [(y, .inr (4, [.int (nI r), .ref a1, .ref a2, .ref a3, .int (nI F), .int (nI N), .int (nI T)])), (a1, .inl (Y.2 0, 12, .inl fr)), (a2, .inl (Y.2 0, 12, .inl le)), (a3, .inl (Y.2 1, 12, .inl fi))]) [0, 1, 2, 3] (by decide) rfl).weaken (fun _ _ _ _ => trivial)) (F + (th_sp N)) (N - (th_sp N)) (nI 0) (by first | exact Or.inl rfl | exact Or.inr rfl) (by omega)) ok_X4_leaveBeside tw_2_156 dX4_goDown_30 rfl rfl (Nat.le_of_ble_eq_true rfl) ⟨Nat.le_of_ble_eq_true rfl, Nat.le_of_ble_eq_true rfl⟩ ⟨Nat.le_of_ble_eq_true rfl, Nat.le_of_ble_eq_true rfl⟩ (fun z hz => by simp only [List.mem_cons, List.not_mem_nil, or_false] at hz ⊢; omega) (th_kv (fun H locs hp hsm hS => ?_))
  have hPc := hp
  have hP : va_P Y.1 vwCl [(y, .inr (4, [.int (nI (r + 1)), .ref a1, .ref a2, .ref a3, .int (nI F), .int (nI N), .int (nI T)])), (a1, .inl (Y.2 0, 12, .inl (upd fr r (nI (F + (th_sp N)))))), (a2, .inl (Y.2 0, 12, .inl (upd le r (nI (N - (th_sp N)))))), (a3, .inl (Y.2 1, 12, .inl (upd fi r (nI 0))))] _ := hPc
  have hD : va_D _ [(y, .inr (4, [.int (nI (r + 1)), .ref a1, .ref a2, .ref a3, .int (nI F), .int (nI N), .int (nI T)])), (a1, .inl (Y.2 0, 12, .inl (upd fr r (nI (F + (th_sp N)))))), (a2, .inl (Y.2 0, 12, .inl (upd le r (nI (N - (th_sp N)))))), (a3, .inl (Y.2 1, 12, .inl (upd fi r (nI 0))))] := th_Dsame hD rfl
  refine lv_aload_n hx hb dX4_goDown_33 rfl (lv_at hl 1 rfl) ?_
  refine lv_iload_n hx hb dX4_goDown_34 rfl (lv_at hl 0 rfl) ?_
  refine va_put (D := Y.1) (ci := 4) (v := .int (nI (th_sp N))) (ty := .int) (C := RX4) (T := TX4) (N := 7) hx hb hts inX4 tyX4 tyX4_ok nmX4 hown hK hP hD hS 0 rfl rfl 5 (by decide) (hts _ tw_1_44) (fun _ h9 => h9) rfl (by decide +kernel) rfl rfl (Nat.le_of_ble_eq_true rfl) dX4_goDown_35 (fun H locs hP hD hS => ?_)
  have hP : va_P Y.1 vwCl [(y, .inr (4, [.int (nI (r + 1)), .ref a1, .ref a2, .ref a3, .int (nI F), .int (nI (th_sp N)), .int (nI T)])), (a1, .inl (Y.2 0, 12, .inl (upd fr r (nI (F + (th_sp N)))))), (a2, .inl (Y.2 0, 12, .inl (upd le r (nI (N - (th_sp N)))))), (a3, .inl (Y.2 1, 12, .inl (upd fi r (nI 0))))] _ := hP
  have hD : va_D _ [(y, .inr (4, [.int (nI (r + 1)), .ref a1, .ref a2, .ref a3, .int (nI F), .int (nI (th_sp N)), .int (nI T)])), (a1, .inl (Y.2 0, 12, .inl (upd fr r (nI (F + (th_sp N)))))), (a2, .inl (Y.2 0, 12, .inl (upd le r (nI (N - (th_sp N)))))), (a3, .inl (Y.2 1, 12, .inl (upd fi r (nI 0))))] := hD
  refine lv_goto (tgt := 81) hx hb dX4_goDown_38 (by decide) ?_
  refine th_vret hx hb hr hlk hQ hS dX4_goDown_81 (Nat.le_of_ble_eq_true rfl) (Nat.le_of_ble_eq_true rfl) ?_
  refine ⟨rfl, ?_⟩
  unfold th_nx th_bf th_bn th_fi
  dsimp only
  simp only [if_pos c_1]
  exact hP

set_option maxRecDepth 100000 in
set_option maxHeartbeats 4000000 in
theorem c_X4_endsInTrust (l : Launch) (Y : th_Y) (H : Heap) (y a1 a2 a3 r F N T : Nat) (fr le fi : Nat → Int32) (hP : va_P Y.1 vwCl [(y, .inr (4, [.int (nI r), .ref a1, .ref a2, .ref a3, .int (nI F), .int (nI N), .int (nI T)])), (a1, .inl (Y.2 0, 12, .inl fr)), (a2, .inl (Y.2 0, 12, .inl le)), (a3, .inl (Y.2 1, 12, .inl fi))] H) (hF : F < 200) : th_P l Y yX4_endsInTrust cX4_endsInTrust 1 (some .boolean) (th_rm 0 0 0) [.ref y] H (fun r9 => r9 = some (.int (if F = 0 then nI 1 else nI 0))) := by
  refine th_M.intro (by decide) (Nat.le_of_ble_eq_true rfl) ?_
  intro p e s m args below meth c ls Q hQ C hKN hl hS
  obtain ⟨hx, hb, hr, hml, hown, hts, hlk, hnm⟩ := C
  obtain ⟨hK, hN⟩ := hKN
  have hown : s.vm.findClass RX4 = some m.cls := hown
  have hl : lv_has ls 1 [(0, .ref y)] := hl
  refine lv_aload_n hx hb dX4_endsInTrust_0 rfl (lv_at hl 0 rfl) ?_
  refine va_get (D := Y.1) (ci := 4) (v := .int (nI F)) (C := RX4) (T := TX4) (N := 7) hx hb hts inX4 hown hK hP 0 rfl rfl 4 (by decide) (hts _ tw_1_43) (fun _ h9 => h9) rfl dX4_endsInTrust_1 ?_
  refine th_zne (tgt := 11) hx hb dX4_endsInTrust_4 (by decide) (by omega) (fun c_1 => ?_) (fun c_1 => ?_)
  · skip
    refine lv_iconst (v := nI 0) hx hb dX4_endsInTrust_11 (by decide) ?_
    refine th_zret hx hb hr hlk hQ hS dX4_endsInTrust_12 (Nat.le_of_ble_eq_true rfl) (Nat.le_of_ble_eq_true rfl) (by first | exact Or.inl rfl | exact Or.inr rfl | assumption) ?_
    exact ⟨by rw [if_neg c_1], rfl⟩
  refine lv_iconst (v := nI 1) hx hb dX4_endsInTrust_7 (by decide) ?_
  refine lv_goto (tgt := 12) hx hb dX4_endsInTrust_8 (by decide) ?_
  refine th_zret hx hb hr hlk hQ hS dX4_endsInTrust_12 (Nat.le_of_ble_eq_true rfl) (Nat.le_of_ble_eq_true rfl) (by first | exact Or.inl rfl | exact Or.inr rfl | assumption) ?_
  exact ⟨by rw [if_pos c_1], rfl⟩

set_option maxRecDepth 100000 in
set_option maxHeartbeats 4000000 in
theorem c_X4_leadToLeaf (l : Launch) (Y : th_Y) (H0 : Heap) (y a1 a2 a3 r F N T : Nat) (fr le fi : Nat → Int32) (hP : va_P Y.1 vwCl [(y, .inr (4, [.int (nI r), .ref a1, .ref a2, .ref a3, .int (nI F), .int (nI N), .int (nI T)])), (a1, .inl (Y.2 0, 12, .inl fr)), (a2, .inl (Y.2 0, 12, .inl le)), (a3, .inl (Y.2 1, 12, .inl fi))] H0) (hD0 : va_D (fun _ => True) [(y, .inr (4, [.int (nI r), .ref a1, .ref a2, .ref a3, .int (nI F), .int (nI N), .int (nI T)])), (a1, .inl (Y.2 0, 12, .inl fr)), (a2, .inl (Y.2 0, 12, .inl le)), (a3, .inl (Y.2 1, 12, .inl fi))]) (n t : Nat) (hn : n ≤ 100) (ht : t < n) : th_M l Y yX4_leadToLeaf cX4_leadToLeaf 4 none (th_rm 2 0 0) [.ref y, .int (nI t), .int (nI n)] H0 (fun z => z ∈ [y, a1, a2, a3]) (fun r' H' => r' = none ∧ ∃ fr' le' fi', va_P Y.1 vwCl [(y, .inr (4, [.int (nI (th_dL (0, n, t))), .ref a1, .ref a2, .ref a3, .int (nI ((th_wa (0, n, t) (th_dL (0, n, t))).1)), .int (nI ((th_wa (0, n, t) (th_dL (0, n, t))).2.1)), .int (nI ((th_wa (0, n, t) (th_dL (0, n, t))).2.2))])), (a1, .inl (Y.2 0, 12, .inl fr')), (a2, .inl (Y.2 0, 12, .inl le')), (a3, .inl (Y.2 1, 12, .inl fi'))] H' ∧ th_RW fr' le' fi' (fun i => th_bf (th_wa (0, n, t) i)) (fun i => th_bn (th_wa (0, n, t) i)) (fun i => th_fi (th_wa (0, n, t) i)) (th_dL (0, n, t))) := by
  refine th_M.intro (by decide) (Nat.le_of_ble_eq_true rfl) ?_
  intro p e s m args below meth c ls Q hQ C hKN hl hS
  obtain ⟨hx, hb, hr, hml, hown, hts, hlk, hnm⟩ := C
  obtain ⟨hK, hN⟩ := hKN
  have hown : s.vm.findClass RX4 = some m.cls := hown
  have hl : lv_has ls 4 [(0, .ref y), (1, .int (nI t)), (2, .int (nI n))] := hl
  have hD : va_D (fun z => z ∈ [y, a1, a2, a3]) [(y, .inr (4, [.int (nI r), .ref a1, .ref a2, .ref a3, .int (nI F), .int (nI N), .int (nI T)])), (a1, .inl (Y.2 0, 12, .inl fr)), (a2, .inl (Y.2 0, 12, .inl le)), (a3, .inl (Y.2 1, 12, .inl fi))] := th_mem hD0
  have hin : th_in3 n (0, n, t) := ⟨(by omega : t < n), (by omega : 0 + n ≤ n), th_al_0 (by omega : n ≤ 128)⟩
  obtain ⟨q0, hq0⟩ : ∃ z : th_q3, z = (0, n, t) := ⟨_, rfl⟩
  rw [← hq0] at hin
  have hq128 : q0.2.1 ≤ 128 := by rw [hq0]; show n ≤ 128; omega
  refine lv_aload_n hx hb dX4_leadToLeaf_0 rfl (lv_at hl 0 rfl) ?_
  refine lv_iload_n hx hb dX4_leadToLeaf_1 rfl (lv_at hl 1 rfl) ?_
  refine lv_iload_n hx hb dX4_leadToLeaf_2 rfl (lv_at hl 2 rfl) ?_
  refine th_callV hx hb hml hown hts ⟨hK, hN⟩ hl hS (hP 0 _ rfl) rfl (rest := []) (c_X4_begin l Y _ y a1 a2 a3 r F N T fr le fi hP ((hD.sub (ws' := [(y, .inr (4, [.int (nI r), .ref a1, .ref a2, .ref a3, .int (nI F), .int (nI N), .int (nI T)])), (a1, .inl (Y.2 0, 12, .inl fr)), (a2, .inl (Y.2 0, 12, .inl le)), (a3, .inl (Y.2 1, 12, .inl fi))]) [0, 1, 2, 3] (by decide) rfl).weaken (fun _ _ _ _ => trivial)) t n) ok_X4_begin tw_2_147 dX4_leadToLeaf_3 rfl rfl (Nat.le_of_ble_eq_true rfl) ⟨Nat.le_of_ble_eq_true rfl, Nat.le_of_ble_eq_true rfl⟩ ⟨Nat.le_of_ble_eq_true rfl, Nat.le_of_ble_eq_true rfl⟩ (fun z hz => by simp only [List.mem_cons, List.not_mem_nil, or_false] at hz ⊢; omega) (th_kv (fun H locs hp hsm hS => ?_))
  have hPc := hp
  have hP : va_P Y.1 vwCl [(y, .inr (4, [.int (nI 0), .ref a1, .ref a2, .ref a3, .int (nI 0), .int (nI n), .int (nI t)])), (a1, .inl (Y.2 0, 12, .inl fr)), (a2, .inl (Y.2 0, 12, .inl le)), (a3, .inl (Y.2 1, 12, .inl fi))] _ := hPc
  have hD : va_D _ [(y, .inr (4, [.int (nI 0), .ref a1, .ref a2, .ref a3, .int (nI 0), .int (nI n), .int (nI t)])), (a1, .inl (Y.2 0, 12, .inl fr)), (a2, .inl (Y.2 0, 12, .inl le)), (a3, .inl (Y.2 1, 12, .inl fi))] := th_Dsame hD rfl
  have e1 : (th_wa q0 0).1 = 0 := by rw [hq0]; rfl
  have e2 : (th_wa q0 0).2.1 = n := by rw [hq0]; rfl
  have e3 : (th_wa q0 0).2.2 = t := by rw [hq0]; rfl
  have hP : va_P Y.1 vwCl [(y, .inr (4, [.int (nI 0), .ref a1, .ref a2, .ref a3, .int (nI ((th_wa q0 0).1)), .int (nI ((th_wa q0 0).2.1)), .int (nI ((th_wa q0 0).2.2))])), (a1, .inl (Y.2 0, 12, .inl fr)), (a2, .inl (Y.2 0, 12, .inl le)), (a3, .inl (Y.2 1, 12, .inl fi))] H := by rw [e1, e2, e3]; exact hP
  have hD : va_D _ [(y, .inr (4, [.int (nI 0), .ref a1, .ref a2, .ref a3, .int (nI ((th_wa q0 0).1)), .int (nI ((th_wa q0 0).2.1)), .int (nI ((th_wa q0 0).2.2))])), (a1, .inl (Y.2 0, 12, .inl fr)), (a2, .inl (Y.2 0, 12, .inl le)), (a3, .inl (Y.2 1, 12, .inl fi))] := th_Dsame hD rfl
  refine lv_iconst (v := nI 0) hx hb dX4_leadToLeaf_6 (by decide) ?_
  refine lv_istore_n (lv' := [(3, .int (nI 0)), (0, .ref y), (1, .int (nI t)), (2, .int (nI n))]) hx hb dX4_leadToLeaf_7 rfl hl (by decide) rfl (fun ls hl => ?_)
  have lp_1 : ∀ (n_2 : Nat) (i : Nat) (fr : Nat → Int32) (le : Nat → Int32) (fi : Nat → Int32) (H : Heap) (locs : List Loc) (ls : Array Slot), 7 - i < n_2 → (i ≤ 7) → (∀ j, j < i → th_sL (th_wa q0 j) = false) → (th_RW fr le fi (fun i => th_bf (th_wa q0 i)) (fun i => th_bn (th_wa q0 i)) (fun i => th_fi (th_wa q0 i)) i) → va_P Y.1 vwCl [(y, .inr (4, [.int (nI i), .ref a1, .ref a2, .ref a3, .int (nI ((th_wa q0 i).1)), .int (nI ((th_wa q0 i).2.1)), .int (nI ((th_wa q0 i).2.2))])), (a1, .inl (Y.2 0, 12, .inl fr)), (a2, .inl (Y.2 0, 12, .inl le)), (a3, .inl (Y.2 1, 12, .inl fi))] H → va_D (fun z => z ∈ [y, a1, a2, a3]) [(y, .inr (4, [.int (nI i), .ref a1, .ref a2, .ref a3, .int (nI ((th_wa q0 i).1)), .int (nI ((th_wa q0 i).2.1)), .int (nI ((th_wa q0 i).2.2))])), (a1, .inl (Y.2 0, 12, .inl fr)), (a2, .inl (Y.2 0, 12, .inl le)), (a3, .inl (Y.2 1, 12, .inl fi))] → va_S (fun z => z ∈ [y, a1, a2, a3]) H0 H locs → lv_has ls 4 [(0, .ref y), (1, .int (nI t)), (2, .int (nI n)), (3, .int (nI i))] → W p l e (th_rm 2 0 0) s m args below meth c H locs 0 0 Q (F0 m 8 ls []) := by
    intro n_2; induction n_2 with
    | zero => intros; exfalso; omega
    | succ n_2 ih =>
      intro i fr le fi H locs ls hmz hi hj hw hP hD hS hl
      obtain ⟨k1, k2, k3, k4⟩ := th_stop hin hq128 th_sL2 hi hj
      have k5 := k1.1
      have k6 := k1.2.1
      have k7 : (th_wa q0 i).2.1 ≤ 128 := Nat.le_trans k2 (Nat.le_trans (Nat.pow_le_pow_right (n := 2) (by decide) (show 7 - i ≤ 7 by omega)) (by decide))
      refine lv_iload_n hx hb dX4_leadToLeaf_8 rfl (lv_at hl 3 rfl) ?_
      refine lv_bipush (v := nI 12) hx hb dX4_leadToLeaf_9 (by decide) ?_
      refine th_ige (tgt := 32) hx hb dX4_leadToLeaf_11 (by decide) (by omega) (by omega) (fun c_3 => by exfalso; omega) (fun c_3 => ?_)
      refine lv_aload_n hx hb dX4_leadToLeaf_14 rfl (lv_at hl 0 rfl) ?_
      refine va_get (D := Y.1) (ci := 4) (v := .int (nI ((th_wa q0 i).2.1))) (C := RX4) (T := TX4) (N := 7) hx hb hts inX4 hown hK hP 0 rfl rfl 5 (by decide) (hts _ tw_1_44) (fun _ h9 => h9) rfl dX4_leadToLeaf_15 ?_
      refine lv_iconst (v := nI 1) hx hb dX4_leadToLeaf_18 (by decide) ?_
      refine th_ile (tgt := 32) hx hb dX4_leadToLeaf_19 (by decide) (by omega) (by omega) (fun c_4 => ?_) (fun c_4 => ?_)
      · skip
        have hd : th_dL q0 = i := th_dF_eq th_sL 8 i q0 (by omega) (decide_eq_true (by omega)) hj
        refine th_vret hx hb hr hlk hQ hS dX4_leadToLeaf_32 (Nat.le_of_ble_eq_true rfl) (Nat.le_of_ble_eq_true rfl) ?_
        subst hq0
        exact ⟨rfl, fr, le, fi, by rw [hd]; exact hP, by rw [hd]; exact hw⟩
      have hstop : th_sL (th_wa q0 i) = false := decide_eq_false (by omega)
      obtain ⟨k8, k9⟩ := k4 hstop
      refine lv_aload_n hx hb dX4_leadToLeaf_22 rfl (lv_at hl 0 rfl) ?_
      refine th_callV hx hb hml hown hts ⟨hK, hN⟩ hl hS (hP 0 _ rfl) rfl (rest := []) (c_X4_goDown l Y _ y a1 a2 a3 i ((th_wa q0 i).1) ((th_wa q0 i).2.1) ((th_wa q0 i).2.2) fr le fi hP ((hD.sub (ws' := [(y, .inr (4, [.int (nI i), .ref a1, .ref a2, .ref a3, .int (nI ((th_wa q0 i).1)), .int (nI ((th_wa q0 i).2.1)), .int (nI ((th_wa q0 i).2.2))])), (a1, .inl (Y.2 0, 12, .inl fr)), (a2, .inl (Y.2 0, 12, .inl le)), (a3, .inl (Y.2 1, 12, .inl fi))]) [0, 1, 2, 3] (by decide) rfl).weaken (fun _ _ _ _ => trivial)) (by omega) (by omega) (by omega) (by omega) (by omega)) ok_X4_goDown tw_2_151 dX4_leadToLeaf_23 rfl rfl (Nat.le_of_ble_eq_true rfl) ⟨Nat.le_of_ble_eq_true rfl, Nat.le_of_ble_eq_true rfl⟩ ⟨Nat.le_of_ble_eq_true rfl, Nat.le_of_ble_eq_true rfl⟩ (fun z hz => by simp only [List.mem_cons, List.not_mem_nil, or_false] at hz ⊢; omega) (th_kv (fun H locs hp hsm hS => ?_))
      have hPc := hp
      have hP : va_P Y.1 vwCl [(y, .inr (4, [.int (nI (i + 1)), .ref a1, .ref a2, .ref a3, .int (nI ((th_nx ((th_wa q0 i).1, (th_wa q0 i).2.1, (th_wa q0 i).2.2)).1)), .int (nI ((th_nx ((th_wa q0 i).1, (th_wa q0 i).2.1, (th_wa q0 i).2.2)).2.1)), .int (nI ((th_nx ((th_wa q0 i).1, (th_wa q0 i).2.1, (th_wa q0 i).2.2)).2.2))])), (a1, .inl (Y.2 0, 12, .inl (upd fr i (nI (th_bf ((th_wa q0 i).1, (th_wa q0 i).2.1, (th_wa q0 i).2.2)))))), (a2, .inl (Y.2 0, 12, .inl (upd le i (nI (th_bn ((th_wa q0 i).1, (th_wa q0 i).2.1, (th_wa q0 i).2.2)))))), (a3, .inl (Y.2 1, 12, .inl (upd fi i (th_fi ((th_wa q0 i).1, (th_wa q0 i).2.1, (th_wa q0 i).2.2)))))] _ := hPc
      have hD : va_D _ [(y, .inr (4, [.int (nI (i + 1)), .ref a1, .ref a2, .ref a3, .int (nI ((th_nx ((th_wa q0 i).1, (th_wa q0 i).2.1, (th_wa q0 i).2.2)).1)), .int (nI ((th_nx ((th_wa q0 i).1, (th_wa q0 i).2.1, (th_wa q0 i).2.2)).2.1)), .int (nI ((th_nx ((th_wa q0 i).1, (th_wa q0 i).2.1, (th_wa q0 i).2.2)).2.2))])), (a1, .inl (Y.2 0, 12, .inl (upd fr i (nI (th_bf ((th_wa q0 i).1, (th_wa q0 i).2.1, (th_wa q0 i).2.2)))))), (a2, .inl (Y.2 0, 12, .inl (upd le i (nI (th_bn ((th_wa q0 i).1, (th_wa q0 i).2.1, (th_wa q0 i).2.2)))))), (a3, .inl (Y.2 1, 12, .inl (upd fi i (th_fi ((th_wa q0 i).1, (th_wa q0 i).2.1, (th_wa q0 i).2.2)))))] := th_Dsame hD rfl
      refine lv_iinc (v := nI (i + 1)) (lv' := [(3, .int (nI (i + 1))), (0, .ref y), (1, .int (nI t)), (2, .int (nI n))]) hx hb dX4_leadToLeaf_26 hl (k := 3) rfl (nI_add _ 1) (by decide) rfl (fun ls hl => ?_)
      refine lv_goto (tgt := 8) hx hb dX4_leadToLeaf_29 (by decide) ?_
      exact ih (i + 1) (upd fr i (nI (th_bf (th_wa q0 i)))) (upd le i (nI (th_bn (th_wa q0 i)))) (upd fi i (th_fi (th_wa q0 i))) _ _ _ (by omega) (by omega) (lt_s hj hstop) (th_RW_s hw rfl rfl rfl) hP hD hS (lv_sub hl [1, 2, 3, 0] rfl)
  exact lp_1 ((7 - (0)) + 1) (0) (fr) (le) (fi) _ _ _ (Nat.lt_succ_self _) (by omega) (fun j hj => by omega) (th_RW_0) hP hD hS (lv_sub hl [1, 2, 3, 0] rfl)

set_option maxRecDepth 100000 in
set_option maxHeartbeats 4000000 in
theorem c_X4_leadToGrowth (l : Launch) (Y : th_Y) (H0 : Heap) (y a1 a2 a3 r F N T : Nat) (fr le fi : Nat → Int32) (hP : va_P Y.1 vwCl [(y, .inr (4, [.int (nI r), .ref a1, .ref a2, .ref a3, .int (nI F), .int (nI N), .int (nI T)])), (a1, .inl (Y.2 0, 12, .inl fr)), (a2, .inl (Y.2 0, 12, .inl le)), (a3, .inl (Y.2 1, 12, .inl fi))] H0) (hD0 : va_D (fun _ => True) [(y, .inr (4, [.int (nI r), .ref a1, .ref a2, .ref a3, .int (nI F), .int (nI N), .int (nI T)])), (a1, .inl (Y.2 0, 12, .inl fr)), (a2, .inl (Y.2 0, 12, .inl le)), (a3, .inl (Y.2 1, 12, .inl fi))]) (n m0 : Nat) (hn : n ≤ 100) (hm1 : 1 ≤ m0) (hm : m0 ≤ n) : th_M l Y yX4_leadToGrowth cX4_leadToGrowth 4 none (th_rm 2 0 0) [.ref y, .int (nI m0), .int (nI n)] H0 (fun z => z ∈ [y, a1, a2, a3]) (fun r' H' => r' = none ∧ ∃ fr' le' fi', va_P Y.1 vwCl [(y, .inr (4, [.int (nI (th_gR (0, n, m0 - 1))), .ref a1, .ref a2, .ref a3, .int (nI ((th_wa (0, n, m0 - 1) (th_dG (0, n, m0 - 1))).1)), .int (nI ((th_wa (0, n, m0 - 1) (th_dG (0, n, m0 - 1))).2.1)), .int (nI ((th_wa (0, n, m0 - 1) (th_dG (0, n, m0 - 1))).2.2))])), (a1, .inl (Y.2 0, 12, .inl fr')), (a2, .inl (Y.2 0, 12, .inl le')), (a3, .inl (Y.2 1, 12, .inl fi'))] H' ∧ th_RW fr' le' fi' (th_gB (0, n, m0 - 1)) (th_gL (0, n, m0 - 1)) (th_gF (0, n, m0 - 1)) (th_gR (0, n, m0 - 1))) := by
  refine th_M.intro (by decide) (Nat.le_of_ble_eq_true rfl) ?_
  intro p e s m args below meth c ls Q hQ C hKN hl hS
  obtain ⟨hx, hb, hr, hml, hown, hts, hlk, hnm⟩ := C
  obtain ⟨hK, hN⟩ := hKN
  have hown : s.vm.findClass RX4 = some m.cls := hown
  have hl : lv_has ls 4 [(0, .ref y), (1, .int (nI m0)), (2, .int (nI n))] := hl
  have hD : va_D (fun z => z ∈ [y, a1, a2, a3]) [(y, .inr (4, [.int (nI r), .ref a1, .ref a2, .ref a3, .int (nI F), .int (nI N), .int (nI T)])), (a1, .inl (Y.2 0, 12, .inl fr)), (a2, .inl (Y.2 0, 12, .inl le)), (a3, .inl (Y.2 1, 12, .inl fi))] := th_mem hD0
  have hin : th_in3 n (0, n, m0 - 1) := ⟨(by omega : m0 - 1 < n), (by omega : 0 + n ≤ n), th_al_0 (by omega : n ≤ 128)⟩
  obtain ⟨q0, hq0⟩ : ∃ z : th_q3, z = (0, n, m0 - 1) := ⟨_, rfl⟩
  rw [← hq0] at hin
  have hq128 : q0.2.1 ≤ 128 := by rw [hq0]; show n ≤ 128; omega
  refine lv_aload_n hx hb dX4_leadToGrowth_0 rfl (lv_at hl 0 rfl) ?_
  refine lv_iload_n hx hb dX4_leadToGrowth_1 rfl (lv_at hl 1 rfl) ?_
  refine lv_iconst (v := nI 1) hx hb dX4_leadToGrowth_2 (by decide) ?_
  refine lv_isub hx hb dX4_leadToGrowth_3 ?_
  refine th_ti (pk_sub (by omega)) ?_
  refine lv_iload_n hx hb dX4_leadToGrowth_4 rfl (lv_at hl 2 rfl) ?_
  refine th_callV hx hb hml hown hts ⟨hK, hN⟩ hl hS (hP 0 _ rfl) rfl (rest := []) (c_X4_begin l Y _ y a1 a2 a3 r F N T fr le fi hP ((hD.sub (ws' := [(y, .inr (4, [.int (nI r), .ref a1, .ref a2, .ref a3, .int (nI F), .int (nI N), .int (nI T)])), (a1, .inl (Y.2 0, 12, .inl fr)), (a2, .inl (Y.2 0, 12, .inl le)), (a3, .inl (Y.2 1, 12, .inl fi))]) [0, 1, 2, 3] (by decide) rfl).weaken (fun _ _ _ _ => trivial)) (m0 - 1) n) ok_X4_begin tw_2_147 dX4_leadToGrowth_5 rfl rfl (Nat.le_of_ble_eq_true rfl) ⟨Nat.le_of_ble_eq_true rfl, Nat.le_of_ble_eq_true rfl⟩ ⟨Nat.le_of_ble_eq_true rfl, Nat.le_of_ble_eq_true rfl⟩ (fun z hz => by simp only [List.mem_cons, List.not_mem_nil, or_false] at hz ⊢; omega) (th_kv (fun H locs hp hsm hS => ?_))
  have hPc := hp
  have hP : va_P Y.1 vwCl [(y, .inr (4, [.int (nI 0), .ref a1, .ref a2, .ref a3, .int (nI 0), .int (nI n), .int (nI (m0 - 1))])), (a1, .inl (Y.2 0, 12, .inl fr)), (a2, .inl (Y.2 0, 12, .inl le)), (a3, .inl (Y.2 1, 12, .inl fi))] _ := hPc
  have hD : va_D _ [(y, .inr (4, [.int (nI 0), .ref a1, .ref a2, .ref a3, .int (nI 0), .int (nI n), .int (nI (m0 - 1))])), (a1, .inl (Y.2 0, 12, .inl fr)), (a2, .inl (Y.2 0, 12, .inl le)), (a3, .inl (Y.2 1, 12, .inl fi))] := th_Dsame hD rfl
  have e1 : (th_wa q0 0).1 = 0 := by rw [hq0]; rfl
  have e2 : (th_wa q0 0).2.1 = n := by rw [hq0]; rfl
  have e3 : (th_wa q0 0).2.2 = m0 - 1 := by rw [hq0]; rfl
  have hP : va_P Y.1 vwCl [(y, .inr (4, [.int (nI 0), .ref a1, .ref a2, .ref a3, .int (nI ((th_wa q0 0).1)), .int (nI ((th_wa q0 0).2.1)), .int (nI ((th_wa q0 0).2.2))])), (a1, .inl (Y.2 0, 12, .inl fr)), (a2, .inl (Y.2 0, 12, .inl le)), (a3, .inl (Y.2 1, 12, .inl fi))] H := by rw [e1, e2, e3]; exact hP
  have hD : va_D _ [(y, .inr (4, [.int (nI 0), .ref a1, .ref a2, .ref a3, .int (nI ((th_wa q0 0).1)), .int (nI ((th_wa q0 0).2.1)), .int (nI ((th_wa q0 0).2.2))])), (a1, .inl (Y.2 0, 12, .inl fr)), (a2, .inl (Y.2 0, 12, .inl le)), (a3, .inl (Y.2 1, 12, .inl fi))] := th_Dsame hD rfl
  refine lv_iconst (v := nI 0) hx hb dX4_leadToGrowth_8 (by decide) ?_
  refine lv_istore_n (lv' := [(3, .int (nI 0)), (0, .ref y), (1, .int (nI m0)), (2, .int (nI n))]) hx hb dX4_leadToGrowth_9 rfl hl (by decide) rfl (fun ls hl => ?_)
  have lp_1 : ∀ (n_2 : Nat) (i : Nat) (fr : Nat → Int32) (le : Nat → Int32) (fi : Nat → Int32) (H : Heap) (locs : List Loc) (ls : Array Slot), 7 - i < n_2 → (i ≤ 7) → (∀ j, j < i → th_sG (th_wa q0 j) = false) → (th_RW fr le fi (fun i => th_bf (th_wa q0 i)) (fun i => th_bn (th_wa q0 i)) (fun i => th_fi (th_wa q0 i)) i) → va_P Y.1 vwCl [(y, .inr (4, [.int (nI i), .ref a1, .ref a2, .ref a3, .int (nI ((th_wa q0 i).1)), .int (nI ((th_wa q0 i).2.1)), .int (nI ((th_wa q0 i).2.2))])), (a1, .inl (Y.2 0, 12, .inl fr)), (a2, .inl (Y.2 0, 12, .inl le)), (a3, .inl (Y.2 1, 12, .inl fi))] H → va_D (fun z => z ∈ [y, a1, a2, a3]) [(y, .inr (4, [.int (nI i), .ref a1, .ref a2, .ref a3, .int (nI ((th_wa q0 i).1)), .int (nI ((th_wa q0 i).2.1)), .int (nI ((th_wa q0 i).2.2))])), (a1, .inl (Y.2 0, 12, .inl fr)), (a2, .inl (Y.2 0, 12, .inl le)), (a3, .inl (Y.2 1, 12, .inl fi))] → va_S (fun z => z ∈ [y, a1, a2, a3]) H0 H locs → lv_has ls 4 [(0, .ref y), (1, .int (nI m0)), (2, .int (nI n)), (3, .int (nI i))] → W p l e (th_rm 2 0 0) s m args below meth c H locs 0 0 Q (F0 m 10 ls []) := by
    intro n_2; induction n_2 with
    | zero => intros; exfalso; omega
    | succ n_2 ih =>
      intro i fr le fi H locs ls hmz hi hj hw hP hD hS hl
      obtain ⟨k1, k2, k3, k4⟩ := th_stop hin hq128 th_sG2 hi hj
      have k5 := k1.1
      have k6 := k1.2.1
      have k7 : (th_wa q0 i).2.1 ≤ 128 := Nat.le_trans k2 (Nat.le_trans (Nat.pow_le_pow_right (n := 2) (by decide) (show 7 - i ≤ 7 by omega)) (by decide))
      refine lv_iload_n hx hb dX4_leadToGrowth_10 rfl (lv_at hl 3 rfl) ?_
      refine lv_bipush (v := nI 12) hx hb dX4_leadToGrowth_11 (by decide) ?_
      refine th_ige (tgt := 39) hx hb dX4_leadToGrowth_13 (by decide) (by omega) (by omega) (fun c_3 => by exfalso; omega) (fun c_3 => ?_)
      refine lv_aload_n hx hb dX4_leadToGrowth_16 rfl (lv_at hl 0 rfl) ?_
      refine va_get (D := Y.1) (ci := 4) (v := .int (nI ((th_wa q0 i).2.2))) (C := RX4) (T := TX4) (N := 7) hx hb hts inX4 hown hK hP 0 rfl rfl 6 (by decide) (hts _ tw_1_45) (fun _ h9 => h9) rfl dX4_leadToGrowth_17 ?_
      refine lv_aload_n hx hb dX4_leadToGrowth_20 rfl (lv_at hl 0 rfl) ?_
      refine va_get (D := Y.1) (ci := 4) (v := .int (nI ((th_wa q0 i).2.1))) (C := RX4) (T := TX4) (N := 7) hx hb hts inX4 hown hK hP 0 rfl rfl 5 (by decide) (hts _ tw_1_44) (fun _ h9 => h9) rfl dX4_leadToGrowth_21 ?_
      refine lv_iconst (v := nI 1) hx hb dX4_leadToGrowth_24 (by decide) ?_
      refine lv_isub hx hb dX4_leadToGrowth_25 ?_
      refine th_ti (pk_sub (by omega)) ?_
      refine th_ige (tgt := 39) hx hb dX4_leadToGrowth_26 (by decide) (by omega) (by omega) (fun c_4 => ?_) (fun c_4 => ?_)
      · skip
        have hd : th_dG q0 = i := th_dF_eq th_sG 8 i q0 (by omega) (decide_eq_true (by omega)) hj
        refine lv_aload_n hx hb dX4_leadToGrowth_39 rfl (lv_at hl 0 rfl) ?_
        refine th_callV hx hb hml hown hts ⟨hK, hN⟩ hl hS (hP 0 _ rfl) rfl (rest := []) (c_X4_endsInTrust l Y _ y a1 a2 a3 i ((th_wa q0 i).1) ((th_wa q0 i).2.1) ((th_wa q0 i).2.2) fr le fi hP (by omega)) ok_X4_endsInTrust tw_2_184 dX4_leadToGrowth_40 rfl rfl (Nat.le_of_ble_eq_true rfl) ⟨Nat.le_of_ble_eq_true rfl, Nat.le_of_ble_eq_true rfl⟩ ⟨Nat.le_of_ble_eq_true rfl, Nat.le_of_ble_eq_true rfl⟩ (fun _ h => h.elim) (th_kpi (fun locs hS => ?_))
        by_cases cF : (th_wa q0 i).1 = 0
        · rw [if_pos cF]
          refine th_zne (tgt := 59) hx hb dX4_leadToGrowth_43 (by decide) (by omega) (fun c_5 => ?_) (fun c_5 => by exfalso; omega)
          refine th_vret hx hb hr hlk hQ hS dX4_leadToGrowth_59 (Nat.le_of_ble_eq_true rfl) (Nat.le_of_ble_eq_true rfl) ?_
          have hg : th_gR q0 = i := by unfold th_gR; rw [hd, if_pos cF]
          subst hq0
          exact ⟨rfl, fr, le, fi, by rw [hg, hd]; exact hP, by rw [hg]; exact th_gw1 hd hw⟩
        rw [if_neg cF]
        refine th_zne (tgt := 59) hx hb dX4_leadToGrowth_43 (by decide) (by omega) (fun c_6 => by exfalso; omega) (fun c_6 => ?_)
        refine lv_aload_n hx hb dX4_leadToGrowth_46 rfl (lv_at hl 0 rfl) ?_
        refine lv_aload_n hx hb dX4_leadToGrowth_47 rfl (lv_at hl 0 rfl) ?_
        refine va_get (D := Y.1) (ci := 4) (v := .int (nI ((th_wa q0 i).1))) (C := RX4) (T := TX4) (N := 7) hx hb hts inX4 hown hK hP 0 rfl rfl 4 (by decide) (hts _ tw_1_43) (fun _ h9 => h9) rfl dX4_leadToGrowth_48 ?_
        refine lv_aload_n hx hb dX4_leadToGrowth_51 rfl (lv_at hl 0 rfl) ?_
        refine va_get (D := Y.1) (ci := 4) (v := .int (nI ((th_wa q0 i).2.1))) (C := RX4) (T := TX4) (N := 7) hx hb hts inX4 hown hK hP 0 rfl rfl 5 (by decide) (hts _ tw_1_44) (fun _ h9 => h9) rfl dX4_leadToGrowth_52 ?_
        refine lv_iconst (v := nI 0) hx hb dX4_leadToGrowth_55 (by decide) ?_
        refine th_callV hx hb hml hown hts ⟨hK, hN⟩ hl hS (hP 0 _ rfl) rfl (rest := []) (c_X4_leaveBeside l Y _ y a1 a2 a3 i ((th_wa q0 i).1) ((th_wa q0 i).2.1) ((th_wa q0 i).2.2) fr le fi hP ((hD.sub (ws' := [(y, .inr (4, [.int (nI i), .ref a1, .ref a2, .ref a3, .int (nI ((th_wa q0 i).1)), .int (nI ((th_wa q0 i).2.1)), .int (nI ((th_wa q0 i).2.2))])), (a1, .inl (Y.2 0, 12, .inl fr)), (a2, .inl (Y.2 0, 12, .inl le)), (a3, .inl (Y.2 1, 12, .inl fi))]) [0, 1, 2, 3] (by decide) rfl).weaken (fun _ _ _ _ => trivial)) ((th_wa q0 i).1) ((th_wa q0 i).2.1) (nI 0) (by first | exact Or.inl rfl | exact Or.inr rfl) (by omega)) ok_X4_leaveBeside tw_2_156 dX4_leadToGrowth_56 rfl rfl (Nat.le_of_ble_eq_true rfl) ⟨Nat.le_of_ble_eq_true rfl, Nat.le_of_ble_eq_true rfl⟩ ⟨Nat.le_of_ble_eq_true rfl, Nat.le_of_ble_eq_true rfl⟩ (fun z hz => by simp only [List.mem_cons, List.not_mem_nil, or_false] at hz ⊢; omega) (th_kv (fun H locs hp hsm hS => ?_))
        have hPc := hp
        have hP : va_P Y.1 vwCl [(y, .inr (4, [.int (nI (i + 1)), .ref a1, .ref a2, .ref a3, .int (nI ((th_wa q0 i).1)), .int (nI ((th_wa q0 i).2.1)), .int (nI ((th_wa q0 i).2.2))])), (a1, .inl (Y.2 0, 12, .inl (upd fr i (nI ((th_wa q0 i).1))))), (a2, .inl (Y.2 0, 12, .inl (upd le i (nI ((th_wa q0 i).2.1))))), (a3, .inl (Y.2 1, 12, .inl (upd fi i (nI 0))))] _ := hPc
        have hD : va_D _ [(y, .inr (4, [.int (nI (i + 1)), .ref a1, .ref a2, .ref a3, .int (nI ((th_wa q0 i).1)), .int (nI ((th_wa q0 i).2.1)), .int (nI ((th_wa q0 i).2.2))])), (a1, .inl (Y.2 0, 12, .inl (upd fr i (nI ((th_wa q0 i).1))))), (a2, .inl (Y.2 0, 12, .inl (upd le i (nI ((th_wa q0 i).2.1))))), (a3, .inl (Y.2 1, 12, .inl (upd fi i (nI 0))))] := th_Dsame hD rfl
        refine th_vret hx hb hr hlk hQ hS dX4_leadToGrowth_59 (Nat.le_of_ble_eq_true rfl) (Nat.le_of_ble_eq_true rfl) ?_
        have hg : th_gR q0 = i + 1 := by unfold th_gR; rw [hd, if_neg cF]
        subst hq0
        exact ⟨rfl, _, _, _, by rw [hg, hd]; exact hP, by rw [hg]; exact th_gw2 hd hw⟩
      have hstop : th_sG (th_wa q0 i) = false := decide_eq_false (by omega)
      obtain ⟨k8, k9⟩ := k4 hstop
      refine lv_aload_n hx hb dX4_leadToGrowth_29 rfl (lv_at hl 0 rfl) ?_
      refine th_callV hx hb hml hown hts ⟨hK, hN⟩ hl hS (hP 0 _ rfl) rfl (rest := []) (c_X4_goDown l Y _ y a1 a2 a3 i ((th_wa q0 i).1) ((th_wa q0 i).2.1) ((th_wa q0 i).2.2) fr le fi hP ((hD.sub (ws' := [(y, .inr (4, [.int (nI i), .ref a1, .ref a2, .ref a3, .int (nI ((th_wa q0 i).1)), .int (nI ((th_wa q0 i).2.1)), .int (nI ((th_wa q0 i).2.2))])), (a1, .inl (Y.2 0, 12, .inl fr)), (a2, .inl (Y.2 0, 12, .inl le)), (a3, .inl (Y.2 1, 12, .inl fi))]) [0, 1, 2, 3] (by decide) rfl).weaken (fun _ _ _ _ => trivial)) (by omega) (by omega) (by omega) (by omega) (by omega)) ok_X4_goDown tw_2_151 dX4_leadToGrowth_30 rfl rfl (Nat.le_of_ble_eq_true rfl) ⟨Nat.le_of_ble_eq_true rfl, Nat.le_of_ble_eq_true rfl⟩ ⟨Nat.le_of_ble_eq_true rfl, Nat.le_of_ble_eq_true rfl⟩ (fun z hz => by simp only [List.mem_cons, List.not_mem_nil, or_false] at hz ⊢; omega) (th_kv (fun H locs hp hsm hS => ?_))
      have hPc := hp
      have hP : va_P Y.1 vwCl [(y, .inr (4, [.int (nI (i + 1)), .ref a1, .ref a2, .ref a3, .int (nI ((th_nx ((th_wa q0 i).1, (th_wa q0 i).2.1, (th_wa q0 i).2.2)).1)), .int (nI ((th_nx ((th_wa q0 i).1, (th_wa q0 i).2.1, (th_wa q0 i).2.2)).2.1)), .int (nI ((th_nx ((th_wa q0 i).1, (th_wa q0 i).2.1, (th_wa q0 i).2.2)).2.2))])), (a1, .inl (Y.2 0, 12, .inl (upd fr i (nI (th_bf ((th_wa q0 i).1, (th_wa q0 i).2.1, (th_wa q0 i).2.2)))))), (a2, .inl (Y.2 0, 12, .inl (upd le i (nI (th_bn ((th_wa q0 i).1, (th_wa q0 i).2.1, (th_wa q0 i).2.2)))))), (a3, .inl (Y.2 1, 12, .inl (upd fi i (th_fi ((th_wa q0 i).1, (th_wa q0 i).2.1, (th_wa q0 i).2.2)))))] _ := hPc
      have hD : va_D _ [(y, .inr (4, [.int (nI (i + 1)), .ref a1, .ref a2, .ref a3, .int (nI ((th_nx ((th_wa q0 i).1, (th_wa q0 i).2.1, (th_wa q0 i).2.2)).1)), .int (nI ((th_nx ((th_wa q0 i).1, (th_wa q0 i).2.1, (th_wa q0 i).2.2)).2.1)), .int (nI ((th_nx ((th_wa q0 i).1, (th_wa q0 i).2.1, (th_wa q0 i).2.2)).2.2))])), (a1, .inl (Y.2 0, 12, .inl (upd fr i (nI (th_bf ((th_wa q0 i).1, (th_wa q0 i).2.1, (th_wa q0 i).2.2)))))), (a2, .inl (Y.2 0, 12, .inl (upd le i (nI (th_bn ((th_wa q0 i).1, (th_wa q0 i).2.1, (th_wa q0 i).2.2)))))), (a3, .inl (Y.2 1, 12, .inl (upd fi i (th_fi ((th_wa q0 i).1, (th_wa q0 i).2.1, (th_wa q0 i).2.2)))))] := th_Dsame hD rfl
      refine lv_iinc (v := nI (i + 1)) (lv' := [(3, .int (nI (i + 1))), (0, .ref y), (1, .int (nI m0)), (2, .int (nI n))]) hx hb dX4_leadToGrowth_33 hl (k := 3) rfl (nI_add _ 1) (by decide) rfl (fun ls hl => ?_)
      refine lv_goto (tgt := 10) hx hb dX4_leadToGrowth_36 (by decide) ?_
      exact ih (i + 1) (upd fr i (nI (th_bf (th_wa q0 i)))) (upd le i (nI (th_bn (th_wa q0 i)))) (upd fi i (th_fi (th_wa q0 i))) _ _ _ (by omega) (by omega) (lt_s hj hstop) (th_RW_s hw rfl rfl rfl) hP hD hS (lv_sub hl [1, 2, 3, 0] rfl)
  exact lp_1 ((7 - (0)) + 1) (0) (fr) (le) (fi) _ _ _ (Nat.lt_succ_self _) (by omega) (fun j hj => by omega) (th_RW_0) hP hD hS (lv_sub hl [1, 2, 3, 0] rfl)
end
section
set_option maxRecDepth 100000 in
set_option maxHeartbeats 4000000 in
theorem c_X0_read (l : Launch) (Y : th_Y) (H : Heap) (dk sm y cnt : Nat) (ds : Nat → Int32) (hP : va_P Y.1 vwCl [(dk, .inr (0, [.int (nI cnt), .ref sm, .ref y])), (sm, .inl (Y.2 0, 12, .inl ds))] H) (q : Nat) (hq : q < cnt) (hc : cnt ≤ 12) : th_P l Y yX0_read cX0_read 2 (some .int) (th_rm 0 0 0) [.ref dk, .int (nI q)] H (fun r9 => r9 = some (.int (ds q))) := by
  refine th_M.intro (by decide) (Nat.le_of_ble_eq_true rfl) ?_
  intro p e s m args below meth c ls Q hQ C hKN hl hS
  obtain ⟨hx, hb, hr, hml, hown, hts, hlk, hnm⟩ := C
  obtain ⟨hK, hN⟩ := hKN
  have hown : s.vm.findClass RX0 = some m.cls := hown
  have hl : lv_has ls 2 [(0, .ref dk), (1, .int (nI q))] := hl
  refine lv_iload_n hx hb dX0_read_0 rfl (lv_at hl 1 rfl) ?_
  refine th_zlt (tgt := 30) hx hb dX0_read_1 (by decide) (by omega) ?_
  refine lv_iload_n hx hb dX0_read_4 rfl (lv_at hl 1 rfl) ?_
  refine lv_aload_n hx hb dX0_read_5 rfl (lv_at hl 0 rfl) ?_
  refine va_get (D := Y.1) (ci := 0) (v := .int (nI cnt)) (C := RX0) (T := TX0) (N := 3) hx hb hts inX0 hown hK hP 0 rfl rfl 0 (by decide) (hts _ tw_1_63) (fun _ h9 => h9) rfl dX0_read_6 ?_
  refine th_ige (tgt := 30) hx hb dX0_read_9 (by decide) (by omega) (by omega) (fun c_1 => by exfalso; omega) (fun c_1 => ?_)
  refine lv_iload_n hx hb dX0_read_12 rfl (lv_at hl 1 rfl) ?_
  refine lv_aload_n hx hb dX0_read_13 rfl (lv_at hl 0 rfl) ?_
  refine va_get (D := Y.1) (ci := 0) (v := .ref sm) (C := RX0) (T := TX0) (N := 3) hx hb hts inX0 hown hK hP 0 rfl rfl 1 (by decide) (hts _ tw_1_65) (fun _ h9 => h9) rfl dX0_read_14 ?_
  refine va_alen (v := nI 12) hx hb hK hP 1 0 rfl rfl rfl dX0_read_17 ?_
  refine th_ige (tgt := 30) hx hb dX0_read_18 (by decide) (by omega) (by omega) (fun c_2 => by exfalso; omega) (fun c_2 => ?_)
  refine lv_aload_n hx hb dX0_read_21 rfl (lv_at hl 0 rfl) ?_
  refine va_get (D := Y.1) (ci := 0) (v := .ref sm) (C := RX0) (T := TX0) (N := 3) hx hb hts inX0 hown hK hP 0 rfl rfl 1 (by decide) (hts _ tw_1_65) (fun _ h9 => h9) rfl dX0_read_22 ?_
  refine lv_iload_n hx hb dX0_read_25 rfl (lv_at hl 1 rfl) ?_
  refine th_iald hx hb hK hP 1 rfl (j := q) (by omega) (by omega) dX0_read_26 ?_
  refine lv_goto (tgt := 31) hx hb dX0_read_27 (by decide) ?_
  refine th_iret hx hb hr hlk hQ hS dX0_read_31 (Nat.le_of_ble_eq_true rfl) (Nat.le_of_ble_eq_true rfl) ?_
  exact ⟨rfl, rfl⟩

set_option maxRecDepth 100000 in
set_option maxHeartbeats 4000000 in
theorem c_X0_write (l : Launch) (Y : th_Y) (H0 : Heap) (dk sm y cnt : Nat) (ds : Nat → Int32) (hP : va_P Y.1 vwCl [(dk, .inr (0, [.int (nI cnt), .ref sm, .ref y])), (sm, .inl (Y.2 0, 12, .inl ds))] H0) (hD0 : va_D (fun _ => True) [(dk, .inr (0, [.int (nI cnt), .ref sm, .ref y])), (sm, .inl (Y.2 0, 12, .inl ds))]) (q : Nat) (x : Int32) (hq : q ≤ cnt) (h12 : q < 12) (hc : cnt ≤ 12) : th_M l Y yX0_write cX0_write 3 none (th_rm 0 0 0) [.ref dk, .int (nI q), .int x] H0 (fun z => z ∈ [dk, sm]) (fun r' H' => r' = none ∧ va_P Y.1 vwCl [(dk, .inr (0, [.int (nI (if q = cnt then cnt + 1 else cnt)), .ref sm, .ref y])), (sm, .inl (Y.2 0, 12, .inl (upd ds q x)))] H') := by
  refine th_M.intro (by decide) (Nat.le_of_ble_eq_true rfl) ?_
  intro p e s m args below meth c ls Q hQ C hKN hl hS
  obtain ⟨hx, hb, hr, hml, hown, hts, hlk, hnm⟩ := C
  obtain ⟨hK, hN⟩ := hKN
  have hown : s.vm.findClass RX0 = some m.cls := hown
  have hl : lv_has ls 3 [(0, .ref dk), (1, .int (nI q)), (2, .int x)] := hl
  have hD : va_D (fun z => z ∈ [dk, sm]) [(dk, .inr (0, [.int (nI cnt), .ref sm, .ref y])), (sm, .inl (Y.2 0, 12, .inl ds))] := th_mem hD0
  refine lv_iload_n hx hb dX0_write_0 rfl (lv_at hl 1 rfl) ?_
  refine th_zlt (tgt := 21) hx hb dX0_write_1 (by decide) (by omega) ?_
  refine lv_iload_n hx hb dX0_write_4 rfl (lv_at hl 1 rfl) ?_
  refine lv_aload_n hx hb dX0_write_5 rfl (lv_at hl 0 rfl) ?_
  refine va_get (D := Y.1) (ci := 0) (v := .int (nI cnt)) (C := RX0) (T := TX0) (N := 3) hx hb hts inX0 hown hK hP 0 rfl rfl 0 (by decide) (hts _ tw_1_63) (fun _ h9 => h9) rfl dX0_write_6 ?_
  refine th_igt (tgt := 21) hx hb dX0_write_9 (by decide) (by omega) (by omega) (fun c_1 => by exfalso; omega) (fun c_1 => ?_)
  refine lv_iload_n hx hb dX0_write_12 rfl (lv_at hl 1 rfl) ?_
  refine lv_aload_n hx hb dX0_write_13 rfl (lv_at hl 0 rfl) ?_
  refine va_get (D := Y.1) (ci := 0) (v := .ref sm) (C := RX0) (T := TX0) (N := 3) hx hb hts inX0 hown hK hP 0 rfl rfl 1 (by decide) (hts _ tw_1_65) (fun _ h9 => h9) rfl dX0_write_14 ?_
  refine va_alen (v := nI 12) hx hb hK hP 1 0 rfl rfl rfl dX0_write_17 ?_
  refine th_ilt (tgt := 22) hx hb dX0_write_18 (by decide) (by omega) (by omega) (fun c_2 => ?_) (fun c_2 => by exfalso; omega)
  refine lv_aload_n hx hb dX0_write_22 rfl (lv_at hl 0 rfl) ?_
  refine va_get (D := Y.1) (ci := 0) (v := .ref sm) (C := RX0) (T := TX0) (N := 3) hx hb hts inX0 hown hK hP 0 rfl rfl 1 (by decide) (hts _ tw_1_65) (fun _ h9 => h9) rfl dX0_write_23 ?_
  refine lv_iload_n hx hb dX0_write_26 rfl (lv_at hl 1 rfl) ?_
  refine lv_iload_n hx hb dX0_write_27 rfl (lv_at hl 2 rfl) ?_
  refine th_iast hx hb hK hP hD hS 1 rfl (j := q) (by omega) (by omega) dX0_write_28 (fun H locs hP hD hS => ?_)
  have hP : va_P Y.1 vwCl [(dk, .inr (0, [.int (nI cnt), .ref sm, .ref y])), (sm, .inl (Y.2 0, 12, .inl (upd ds q x)))] _ := hP
  have hD : va_D _ [(dk, .inr (0, [.int (nI cnt), .ref sm, .ref y])), (sm, .inl (Y.2 0, 12, .inl (upd ds q x)))] := hD
  refine lv_aload_n hx hb dX0_write_29 rfl (lv_at hl 0 rfl) ?_
  refine lv_iload_n hx hb dX0_write_30 rfl (lv_at hl 1 rfl) ?_
  refine lv_aload_n hx hb dX0_write_31 rfl (lv_at hl 0 rfl) ?_
  refine va_get (D := Y.1) (ci := 0) (v := .int (nI cnt)) (C := RX0) (T := TX0) (N := 3) hx hb hts inX0 hown hK hP 0 rfl rfl 0 (by decide) (hts _ tw_1_63) (fun _ h9 => h9) rfl dX0_write_32 ?_
  refine th_ine (tgt := 47) hx hb dX0_write_35 (by decide) (by omega) (by omega) (fun c_3 => ?_) (fun c_3 => ?_)
  · skip
    refine lv_aload_n hx hb dX0_write_47 rfl (lv_at hl 0 rfl) ?_
    refine va_get (D := Y.1) (ci := 0) (v := .int (nI cnt)) (C := RX0) (T := TX0) (N := 3) hx hb hts inX0 hown hK hP 0 rfl rfl 0 (by decide) (hts _ tw_1_63) (fun _ h9 => h9) rfl dX0_write_48 ?_
    refine va_put (D := Y.1) (ci := 0) (v := .int (nI cnt)) (ty := .int) (C := RX0) (T := TX0) (N := 3) hx hb hts inX0 tyX0 tyX0_ok nmX0 hown hK hP hD hS 0 rfl rfl 0 (by decide) (hts _ tw_1_63) (fun _ h9 => h9) rfl (by decide +kernel) rfl rfl (Nat.le_of_ble_eq_true rfl) dX0_write_51 (fun H locs hP hD hS => ?_)
    have hP : va_P Y.1 vwCl [(dk, .inr (0, [.int (nI cnt), .ref sm, .ref y])), (sm, .inl (Y.2 0, 12, .inl (upd ds q x)))] _ := hP
    have hD : va_D _ [(dk, .inr (0, [.int (nI cnt), .ref sm, .ref y])), (sm, .inl (Y.2 0, 12, .inl (upd ds q x)))] := hD
    refine th_vret hx hb hr hlk hQ hS dX0_write_54 (Nat.le_of_ble_eq_true rfl) (Nat.le_of_ble_eq_true rfl) ?_
    refine ⟨rfl, ?_⟩
    rw [if_neg c_3]
    exact hP
  refine lv_aload_n hx hb dX0_write_38 rfl (lv_at hl 0 rfl) ?_
  refine va_get (D := Y.1) (ci := 0) (v := .int (nI cnt)) (C := RX0) (T := TX0) (N := 3) hx hb hts inX0 hown hK hP 0 rfl rfl 0 (by decide) (hts _ tw_1_63) (fun _ h9 => h9) rfl dX0_write_39 ?_
  refine lv_iconst (v := nI 1) hx hb dX0_write_42 (by decide) ?_
  refine lv_iadd hx hb dX0_write_43 ?_
  refine th_ti (nI_add _ _) ?_
  refine lv_goto (tgt := 51) hx hb dX0_write_44 (by decide) ?_
  refine va_put (D := Y.1) (ci := 0) (v := .int (nI (cnt + 1))) (ty := .int) (C := RX0) (T := TX0) (N := 3) hx hb hts inX0 tyX0 tyX0_ok nmX0 hown hK hP hD hS 0 rfl rfl 0 (by decide) (hts _ tw_1_63) (fun _ h9 => h9) rfl (by decide +kernel) rfl rfl (Nat.le_of_ble_eq_true rfl) dX0_write_51 (fun H locs hP hD hS => ?_)
  have hP : va_P Y.1 vwCl [(dk, .inr (0, [.int (nI (cnt + 1)), .ref sm, .ref y])), (sm, .inl (Y.2 0, 12, .inl (upd ds q x)))] _ := hP
  have hD : va_D _ [(dk, .inr (0, [.int (nI (cnt + 1)), .ref sm, .ref y])), (sm, .inl (Y.2 0, 12, .inl (upd ds q x)))] := hD
  refine th_vret hx hb hr hlk hQ hS dX0_write_54 (Nat.le_of_ble_eq_true rfl) (Nat.le_of_ble_eq_true rfl) ?_
  refine ⟨rfl, ?_⟩
  rw [if_pos c_3]
  exact hP

set_option maxRecDepth 100000 in
set_option maxHeartbeats 4000000 in
theorem c_X0_dropLast (l : Launch) (Y : th_Y) (H0 : Heap) (dk sm y cnt : Nat) (ds : Nat → Int32) (hP : va_P Y.1 vwCl [(dk, .inr (0, [.int (nI cnt), .ref sm, .ref y])), (sm, .inl (Y.2 0, 12, .inl ds))] H0) (hD0 : va_D (fun _ => True) [(dk, .inr (0, [.int (nI cnt), .ref sm, .ref y])), (sm, .inl (Y.2 0, 12, .inl ds))]) (h1 : 1 ≤ cnt) (hc : cnt ≤ 12) : th_M l Y yX0_dropLast cX0_dropLast 2 (some .int) (th_rm 1 0 0) [.ref dk] H0 (fun z => z ∈ [dk, sm]) (fun r' H' => ∃ x : Int32, r' = some (.int x) ∧ x = ds (cnt - 1) ∧ va_P Y.1 vwCl [(dk, .inr (0, [.int (nI (cnt - 1)), .ref sm, .ref y])), (sm, .inl (Y.2 0, 12, .inl ds))] H') := by
  refine th_M.intro (by decide) (Nat.le_of_ble_eq_true rfl) ?_
  intro p e s m args below meth c ls Q hQ C hKN hl hS
  obtain ⟨hx, hb, hr, hml, hown, hts, hlk, hnm⟩ := C
  obtain ⟨hK, hN⟩ := hKN
  have hown : s.vm.findClass RX0 = some m.cls := hown
  have hl : lv_has ls 2 [(0, .ref dk)] := hl
  have hD : va_D (fun z => z ∈ [dk, sm]) [(dk, .inr (0, [.int (nI cnt), .ref sm, .ref y])), (sm, .inl (Y.2 0, 12, .inl ds))] := th_mem hD0
  refine lv_aload_n hx hb dX0_dropLast_0 rfl (lv_at hl 0 rfl) ?_
  refine lv_aload_n hx hb dX0_dropLast_1 rfl (lv_at hl 0 rfl) ?_
  refine va_get (D := Y.1) (ci := 0) (v := .int (nI cnt)) (C := RX0) (T := TX0) (N := 3) hx hb hts inX0 hown hK hP 0 rfl rfl 0 (by decide) (hts _ tw_1_63) (fun _ h9 => h9) rfl dX0_dropLast_2 ?_
  refine lv_iconst (v := nI 1) hx hb dX0_dropLast_5 (by decide) ?_
  refine lv_isub hx hb dX0_dropLast_6 ?_
  refine th_ti (pk_sub (by omega)) ?_
  refine th_callV hx hb hml hown hts ⟨hK, hN⟩ hl hS (hP 0 _ rfl) rfl (rest := []) (c_X0_read l Y _ dk sm y cnt ds hP (cnt - 1) (by omega) (by omega)) ok_X0_read tw_2_229 dX0_dropLast_7 rfl rfl (Nat.le_of_ble_eq_true rfl) ⟨Nat.le_of_ble_eq_true rfl, Nat.le_of_ble_eq_true rfl⟩ ⟨Nat.le_of_ble_eq_true rfl, Nat.le_of_ble_eq_true rfl⟩ (fun _ h => h.elim) (th_kpi (fun locs hS => ?_))
  refine lv_istore_n (lv' := [(1, .int (ds (cnt - 1))), (0, .ref dk)]) hx hb dX0_dropLast_10 rfl hl (by decide) rfl (fun ls hl => ?_)
  refine lv_aload_n hx hb dX0_dropLast_11 rfl (lv_at hl 1 rfl) ?_
  refine lv_aload_n hx hb dX0_dropLast_12 rfl (lv_at hl 1 rfl) ?_
  refine va_get (D := Y.1) (ci := 0) (v := .int (nI cnt)) (C := RX0) (T := TX0) (N := 3) hx hb hts inX0 hown hK hP 0 rfl rfl 0 (by decide) (hts _ tw_1_63) (fun _ h9 => h9) rfl dX0_dropLast_13 ?_
  refine th_zle (tgt := 28) hx hb dX0_dropLast_16 (by decide) (by omega) (fun c_1 => by exfalso; omega) (fun c_1 => ?_)
  refine lv_aload_n hx hb dX0_dropLast_19 rfl (lv_at hl 1 rfl) ?_
  refine va_get (D := Y.1) (ci := 0) (v := .int (nI cnt)) (C := RX0) (T := TX0) (N := 3) hx hb hts inX0 hown hK hP 0 rfl rfl 0 (by decide) (hts _ tw_1_63) (fun _ h9 => h9) rfl dX0_dropLast_20 ?_
  refine lv_iconst (v := nI 1) hx hb dX0_dropLast_23 (by decide) ?_
  refine lv_isub hx hb dX0_dropLast_24 ?_
  refine th_ti (pk_sub (by omega)) ?_
  refine lv_goto (tgt := 29) hx hb dX0_dropLast_25 (by decide) ?_
  refine va_put (D := Y.1) (ci := 0) (v := .int (nI (cnt - 1))) (ty := .int) (C := RX0) (T := TX0) (N := 3) hx hb hts inX0 tyX0 tyX0_ok nmX0 hown hK hP hD hS 0 rfl rfl 0 (by decide) (hts _ tw_1_63) (fun _ h9 => h9) rfl (by decide +kernel) rfl rfl (Nat.le_of_ble_eq_true rfl) dX0_dropLast_29 (fun H locs hP hD hS => ?_)
  have hP : va_P Y.1 vwCl [(dk, .inr (0, [.int (nI (cnt - 1)), .ref sm, .ref y])), (sm, .inl (Y.2 0, 12, .inl ds))] _ := hP
  have hD : va_D _ [(dk, .inr (0, [.int (nI (cnt - 1)), .ref sm, .ref y])), (sm, .inl (Y.2 0, 12, .inl ds))] := hD
  refine lv_iload_n hx hb dX0_dropLast_32 rfl (lv_at hl 0 rfl) ?_
  refine th_iret hx hb hr hlk hQ hS dX0_dropLast_33 (Nat.le_of_ble_eq_true rfl) (Nat.le_of_ble_eq_true rfl) ?_
  exact ⟨_, rfl, rfl, hP⟩

set_option maxRecDepth 100000 in
set_option maxHeartbeats 4000000 in
theorem c_X4_isFirstAt (l : Launch) (Y : th_Y) (H : Heap) (y a1 a2 a3 r F N T : Nat) (fr le fi : Nat → Int32) (hP : va_P Y.1 vwCl [(y, .inr (4, [.int (nI r), .ref a1, .ref a2, .ref a3, .int (nI F), .int (nI N), .int (nI T)])), (a1, .inl (Y.2 0, 12, .inl fr)), (a2, .inl (Y.2 0, 12, .inl le)), (a3, .inl (Y.2 1, 12, .inl fi))] H) (q : Nat) (hq : q < r) (hr12 : r ≤ 12) (h01 : fi (r - 1 - q) = 0 ∨ fi (r - 1 - q) = 1) : th_P l Y yX4_isFirstAt cX4_isFirstAt 3 (some .boolean) (th_rm 0 0 0) [.ref y, .int (nI q)] H (fun r9 => r9 = some (.int (fi (r - 1 - q)))) := by
  refine th_M.intro (by decide) (Nat.le_of_ble_eq_true rfl) ?_
  intro p e s m args below meth c ls Q hQ C hKN hl hS
  obtain ⟨hx, hb, hr, hml, hown, hts, hlk, hnm⟩ := C
  obtain ⟨hK, hN⟩ := hKN
  have hown : s.vm.findClass RX4 = some m.cls := hown
  have hl : lv_has ls 3 [(0, .ref y), (1, .int (nI q))] := hl
  refine lv_aload_n hx hb dX4_isFirstAt_0 rfl (lv_at hl 0 rfl) ?_
  refine va_get (D := Y.1) (ci := 4) (v := .int (nI r)) (C := RX4) (T := TX4) (N := 7) hx hb hts inX4 hown hK hP 0 rfl rfl 0 (by decide) (hts _ tw_1_39) (fun _ h9 => h9) rfl dX4_isFirstAt_1 ?_
  refine lv_iconst (v := nI 1) hx hb dX4_isFirstAt_4 (by decide) ?_
  refine lv_isub hx hb dX4_isFirstAt_5 ?_
  refine th_ti (pk_sub (by omega)) ?_
  refine lv_iload_n hx hb dX4_isFirstAt_6 rfl (lv_at hl 1 rfl) ?_
  refine lv_isub hx hb dX4_isFirstAt_7 ?_
  refine th_ti (pk_sub (by omega)) ?_
  refine lv_istore_n (lv' := [(2, .int (nI ((r - 1) - q))), (0, .ref y), (1, .int (nI q))]) hx hb dX4_isFirstAt_8 rfl hl (by decide) rfl (fun ls hl => ?_)
  refine lv_iload_n hx hb dX4_isFirstAt_9 rfl (lv_at hl 0 rfl) ?_
  refine th_zlt (tgt := 32) hx hb dX4_isFirstAt_10 (by decide) (by omega) ?_
  refine lv_iload_n hx hb dX4_isFirstAt_13 rfl (lv_at hl 0 rfl) ?_
  refine lv_bipush (v := nI 12) hx hb dX4_isFirstAt_14 (by decide) ?_
  refine th_ige (tgt := 32) hx hb dX4_isFirstAt_16 (by decide) (by omega) (by omega) (fun c_1 => by exfalso; omega) (fun c_1 => ?_)
  refine lv_aload_n hx hb dX4_isFirstAt_19 rfl (lv_at hl 1 rfl) ?_
  refine va_get (D := Y.1) (ci := 4) (v := .ref a3) (C := RX4) (T := TX4) (N := 7) hx hb hts inX4 hown hK hP 0 rfl rfl 3 (by decide) (hts _ tw_1_42) (fun _ h9 => h9) rfl dX4_isFirstAt_20 ?_
  refine lv_iload_n hx hb dX4_isFirstAt_23 rfl (lv_at hl 0 rfl) ?_
  refine th_zald hx hb hK hP 3 rfl (j := ((r - 1) - q)) (by omega) (by omega) dX4_isFirstAt_24 ?_
  refine lv_if_eq (tgt := 32) hx hb dX4_isFirstAt_25 (by decide) (fun c_2 => ?_) (fun c_2 => ?_)
  · skip
    refine lv_iconst (v := nI 0) hx hb dX4_isFirstAt_32 (by decide) ?_
    refine th_zret hx hb hr hlk hQ hS dX4_isFirstAt_33 (Nat.le_of_ble_eq_true rfl) (Nat.le_of_ble_eq_true rfl) (by first | exact Or.inl rfl | exact Or.inr rfl | assumption) ?_
    exact ⟨by rw [c_2] <;> rfl, rfl⟩
  refine lv_iconst (v := nI 1) hx hb dX4_isFirstAt_28 (by decide) ?_
  refine lv_goto (tgt := 33) hx hb dX4_isFirstAt_29 (by decide) ?_
  refine th_zret hx hb hr hlk hQ hS dX4_isFirstAt_33 (Nat.le_of_ble_eq_true rfl) (Nat.le_of_ble_eq_true rfl) (by first | exact Or.inl rfl | exact Or.inr rfl | assumption) ?_
  exact ⟨by rw [h01.resolve_left c_2] <;> rfl, rfl⟩

set_option maxRecDepth 100000 in
set_option maxHeartbeats 4000000 in
theorem c_X4_rootOfPlace (l : Launch) (Y : th_Y) (H : Heap) (y : Nat) (a1 a2 a3 r F N T : Nat) (fr le fi : Nat → Int32) (v a b n : Nat) (f g : Nat → Int32) (hP : va_P Y.1 vwCl [(y, .inr (4, [.int (nI r), .ref a1, .ref a2, .ref a3, .int (nI F), .int (nI N), .int (nI T)])), (a1, .inl (Y.2 0, 12, .inl fr)), (a2, .inl (Y.2 0, 12, .inl le)), (a3, .inl (Y.2 1, 12, .inl fi)), (v, .inr (2, [.int (nI n), .ref a, .ref b])), (a, .inl (Y.2 0, 100, .inl f)), (b, .inl (Y.2 0, 256, .inl g))] H) (B L9 : Nat → Nat) (Fi : Nat → Int32) (hw : th_RW fr le fi B L9 Fi r) (hok : ∀ i, i < r → th_al (B i) (L9 i) ∧ B i + L9 i ≤ n) (hr12 : r ≤ 12) (hn : n ≤ 100) (hB : th_BI f g n) (q : Nat) (hq : q < r) : th_P l Y yX4_rootOfPlace cX4_rootOfPlace 4 (some .int) (th_rm 2 0 0) [.ref y, .ref v, .int (nI q)] H (fun r9 => r9 = some (.int (th_pS f B L9 r q))) := by
  refine th_M.intro (by decide) (Nat.le_of_ble_eq_true rfl) ?_
  intro p e s m args below meth c ls Q hQ C hKN hl hS
  obtain ⟨hx, hb, hr, hml, hown, hts, hlk, hnm⟩ := C
  obtain ⟨hK, hN⟩ := hKN
  have hown : s.vm.findClass RX4 = some m.cls := hown
  have hl : lv_has ls 4 [(0, .ref y), (1, .ref v), (2, .int (nI q))] := hl
  refine lv_aload_n hx hb dX4_rootOfPlace_0 rfl (lv_at hl 0 rfl) ?_
  refine va_get (D := Y.1) (ci := 4) (v := .int (nI r)) (C := RX4) (T := TX4) (N := 7) hx hb hts inX4 hown hK hP 0 rfl rfl 0 (by decide) (hts _ tw_1_39) (fun _ h9 => h9) rfl dX4_rootOfPlace_1 ?_
  refine lv_iconst (v := nI 1) hx hb dX4_rootOfPlace_4 (by decide) ?_
  refine lv_isub hx hb dX4_rootOfPlace_5 ?_
  refine th_ti (pk_sub (by omega)) ?_
  refine lv_iload_n hx hb dX4_rootOfPlace_6 rfl (lv_at hl 2 rfl) ?_
  refine lv_isub hx hb dX4_rootOfPlace_7 ?_
  refine th_ti (pk_sub (by omega)) ?_
  refine lv_istore_n (lv' := [(3, .int (nI ((r - 1) - q))), (0, .ref y), (1, .ref v), (2, .int (nI q))]) hx hb dX4_rootOfPlace_8 rfl hl (by decide) rfl (fun ls hl => ?_)
  refine lv_iload_n hx hb dX4_rootOfPlace_9 rfl (lv_at hl 0 rfl) ?_
  refine th_zlt (tgt := 38) hx hb dX4_rootOfPlace_10 (by decide) (by omega) ?_
  refine lv_iload_n hx hb dX4_rootOfPlace_13 rfl (lv_at hl 0 rfl) ?_
  refine lv_bipush (v := nI 12) hx hb dX4_rootOfPlace_14 (by decide) ?_
  refine th_ige (tgt := 38) hx hb dX4_rootOfPlace_16 (by decide) (by omega) (by omega) (fun c_1 => by exfalso; omega) (fun c_1 => ?_)
  have hbz := (hok (r - 1 - q) (by omega)).2
  refine lv_aload_n hx hb dX4_rootOfPlace_19 rfl (lv_at hl 2 rfl) ?_
  refine lv_aload_n hx hb dX4_rootOfPlace_20 rfl (lv_at hl 1 rfl) ?_
  refine va_get (D := Y.1) (ci := 4) (v := .ref a1) (C := RX4) (T := TX4) (N := 7) hx hb hts inX4 hown hK hP 0 rfl rfl 1 (by decide) (hts _ tw_1_40) (fun _ h9 => h9) rfl dX4_rootOfPlace_21 ?_
  refine lv_iload_n hx hb dX4_rootOfPlace_24 rfl (lv_at hl 0 rfl) ?_
  refine th_iald hx hb hK hP 1 rfl (j := ((r - 1) - q)) (by omega) (by omega) dX4_rootOfPlace_25 ?_
  refine th_ti (show fr ((r - 1) - q) = nI (B (r - 1 - q)) from (hw _ (by omega)).1) ?_
  refine lv_aload_n hx hb dX4_rootOfPlace_26 rfl (lv_at hl 1 rfl) ?_
  refine va_get (D := Y.1) (ci := 4) (v := .ref a2) (C := RX4) (T := TX4) (N := 7) hx hb hts inX4 hown hK hP 0 rfl rfl 2 (by decide) (hts _ tw_1_41) (fun _ h9 => h9) rfl dX4_rootOfPlace_27 ?_
  refine lv_iload_n hx hb dX4_rootOfPlace_30 rfl (lv_at hl 0 rfl) ?_
  refine th_iald hx hb hK hP 2 rfl (j := ((r - 1) - q)) (by omega) (by omega) dX4_rootOfPlace_31 ?_
  refine th_ti (show le ((r - 1) - q) = nI (L9 (r - 1 - q)) from (hw _ (by omega)).2.1) ?_
  refine th_callV hx hb hml hown hts ⟨hK, hN⟩ hl hS (hP 4 _ rfl) rfl (rest := []) (c_X2_rootOfRow l Y _ v a b n f g (hP.sub (ws' := [(v, .inr (2, [.int (nI n), .ref a, .ref b])), (a, .inl (Y.2 0, 100, .inl f)), (b, .inl (Y.2 0, 256, .inl g))]) [4, 5, 6] rfl) (B (r - 1 - q)) (L9 (r - 1 - q)) (by omega) (hok _ (by omega)).2 hB (hok _ (by omega)).1) ok_X2_rootOfRow tw_2_168 dX4_rootOfPlace_32 rfl rfl (Nat.le_of_ble_eq_true rfl) ⟨Nat.le_of_ble_eq_true rfl, Nat.le_of_ble_eq_true rfl⟩ ⟨Nat.le_of_ble_eq_true rfl, Nat.le_of_ble_eq_true rfl⟩ (fun _ h => h.elim) (th_kpi (fun locs hS => ?_))
  refine lv_goto (tgt := 39) hx hb dX4_rootOfPlace_35 (by decide) ?_
  refine th_iret hx hb hr hlk hQ hS dX4_rootOfPlace_39 (Nat.le_of_ble_eq_true rfl) (Nat.le_of_ble_eq_true rfl) ?_
  exact ⟨rfl, rfl⟩

set_option maxRecDepth 100000 in
set_option maxHeartbeats 4000000 in
theorem c_X0_takeRoots (l : Launch) (Y : th_Y) (H0 : Heap) (dk sm y cnt : Nat) (ds : Nat → Int32) (a1 a2 a3 r F N T : Nat) (fr le fi : Nat → Int32) (v a b n : Nat) (f g : Nat → Int32) (hP : va_P Y.1 vwCl [(dk, .inr (0, [.int (nI cnt), .ref sm, .ref y])), (sm, .inl (Y.2 0, 12, .inl ds)), (y, .inr (4, [.int (nI r), .ref a1, .ref a2, .ref a3, .int (nI F), .int (nI N), .int (nI T)])), (a1, .inl (Y.2 0, 12, .inl fr)), (a2, .inl (Y.2 0, 12, .inl le)), (a3, .inl (Y.2 1, 12, .inl fi)), (v, .inr (2, [.int (nI n), .ref a, .ref b])), (a, .inl (Y.2 0, 100, .inl f)), (b, .inl (Y.2 0, 256, .inl g))] H0) (hD0 : va_D (fun _ => True) [(dk, .inr (0, [.int (nI cnt), .ref sm, .ref y])), (sm, .inl (Y.2 0, 12, .inl ds)), (y, .inr (4, [.int (nI r), .ref a1, .ref a2, .ref a3, .int (nI F), .int (nI N), .int (nI T)])), (a1, .inl (Y.2 0, 12, .inl fr)), (a2, .inl (Y.2 0, 12, .inl le)), (a3, .inl (Y.2 1, 12, .inl fi)), (v, .inr (2, [.int (nI n), .ref a, .ref b])), (a, .inl (Y.2 0, 100, .inl f)), (b, .inl (Y.2 0, 256, .inl g))]) (B L9 : Nat → Nat) (Fi : Nat → Int32) (hw : th_RW fr le fi B L9 Fi r) (hok : ∀ i, i < r → th_al (B i) (L9 i) ∧ B i + L9 i ≤ n) (hr12 : r ≤ 12) (hn : n ≤ 100) (hB : th_BI f g n) : th_M l Y yX0_takeRoots cX0_takeRoots 3 none (th_rm 3 0 0) [.ref dk, .ref v] H0 (fun z => z ∈ [dk, sm, y, a1, a2, a3, v, a, b]) (fun r' H' => r' = none ∧ ∃ ds', va_P Y.1 vwCl [(dk, .inr (0, [.int (nI r), .ref sm, .ref y])), (sm, .inl (Y.2 0, 12, .inl ds')), (y, .inr (4, [.int (nI r), .ref a1, .ref a2, .ref a3, .int (nI F), .int (nI N), .int (nI T)])), (a1, .inl (Y.2 0, 12, .inl fr)), (a2, .inl (Y.2 0, 12, .inl le)), (a3, .inl (Y.2 1, 12, .inl fi)), (v, .inr (2, [.int (nI n), .ref a, .ref b])), (a, .inl (Y.2 0, 100, .inl f)), (b, .inl (Y.2 0, 256, .inl g))] H' ∧ ∀ k, k < r → ds' k = th_pS f B L9 r k) := by
  refine th_M.intro (by decide) (Nat.le_of_ble_eq_true rfl) ?_
  intro p e s m args below meth c ls Q hQ C hKN hl hS
  obtain ⟨hx, hb, hr, hml, hown, hts, hlk, hnm⟩ := C
  obtain ⟨hK, hN⟩ := hKN
  have hown : s.vm.findClass RX0 = some m.cls := hown
  have hl : lv_has ls 3 [(0, .ref dk), (1, .ref v)] := hl
  have hD : va_D (fun z => z ∈ [dk, sm, y, a1, a2, a3, v, a, b]) [(dk, .inr (0, [.int (nI cnt), .ref sm, .ref y])), (sm, .inl (Y.2 0, 12, .inl ds)), (y, .inr (4, [.int (nI r), .ref a1, .ref a2, .ref a3, .int (nI F), .int (nI N), .int (nI T)])), (a1, .inl (Y.2 0, 12, .inl fr)), (a2, .inl (Y.2 0, 12, .inl le)), (a3, .inl (Y.2 1, 12, .inl fi)), (v, .inr (2, [.int (nI n), .ref a, .ref b])), (a, .inl (Y.2 0, 100, .inl f)), (b, .inl (Y.2 0, 256, .inl g))] := th_mem hD0
  refine lv_aload_n hx hb dX0_takeRoots_0 rfl (lv_at hl 0 rfl) ?_
  refine lv_aload_n hx hb dX0_takeRoots_1 rfl (lv_at hl 0 rfl) ?_
  refine va_get (D := Y.1) (ci := 0) (v := .ref y) (C := RX0) (T := TX0) (N := 3) hx hb hts inX0 hown hK hP 0 rfl rfl 2 (by decide) (hts _ tw_1_66) (fun _ h9 => h9) rfl dX0_takeRoots_2 ?_
  refine va_getN (D := Y.1) (ci := 4) (v := .int (nI r)) (C := RX4) (T := TX4) (N := 7) hx hb hts inX4 hown hK hP 2 rfl rfl 0 (by decide) (va_Nw.use rfl (tn_1_38 hN)) (fun _ h9 => h9) rfl dX0_takeRoots_5 ?_
  refine va_put (D := Y.1) (ci := 0) (v := .int (nI r)) (ty := .int) (C := RX0) (T := TX0) (N := 3) hx hb hts inX0 tyX0 tyX0_ok nmX0 hown hK hP hD hS 0 rfl rfl 0 (by decide) (hts _ tw_1_63) (fun _ h9 => h9) rfl (by decide +kernel) rfl rfl (Nat.le_of_ble_eq_true rfl) dX0_takeRoots_8 (fun H locs hP hD hS => ?_)
  have hP : va_P Y.1 vwCl [(dk, .inr (0, [.int (nI r), .ref sm, .ref y])), (sm, .inl (Y.2 0, 12, .inl ds)), (y, .inr (4, [.int (nI r), .ref a1, .ref a2, .ref a3, .int (nI F), .int (nI N), .int (nI T)])), (a1, .inl (Y.2 0, 12, .inl fr)), (a2, .inl (Y.2 0, 12, .inl le)), (a3, .inl (Y.2 1, 12, .inl fi)), (v, .inr (2, [.int (nI n), .ref a, .ref b])), (a, .inl (Y.2 0, 100, .inl f)), (b, .inl (Y.2 0, 256, .inl g))] _ := hP
  have hD : va_D _ [(dk, .inr (0, [.int (nI r), .ref sm, .ref y])), (sm, .inl (Y.2 0, 12, .inl ds)), (y, .inr (4, [.int (nI r), .ref a1, .ref a2, .ref a3, .int (nI F), .int (nI N), .int (nI T)])), (a1, .inl (Y.2 0, 12, .inl fr)), (a2, .inl (Y.2 0, 12, .inl le)), (a3, .inl (Y.2 1, 12, .inl fi)), (v, .inr (2, [.int (nI n), .ref a, .ref b])), (a, .inl (Y.2 0, 100, .inl f)), (b, .inl (Y.2 0, 256, .inl g))] := hD
  refine lv_iconst (v := nI 0) hx hb dX0_takeRoots_11 (by decide) ?_
  refine lv_istore_n (lv' := [(2, .int (nI 0)), (0, .ref dk), (1, .ref v)]) hx hb dX0_takeRoots_12 rfl hl (by decide) rfl (fun ls hl => ?_)
  have lp_1 : ∀ (n_2 : Nat) (j : Nat) (ds : Nat → Int32) (H : Heap) (locs : List Loc) (ls : Array Slot), r - j < n_2 → (j ≤ r) → (∀ k, k < j → ds k = th_pS f B L9 r k) → va_P Y.1 vwCl [(dk, .inr (0, [.int (nI r), .ref sm, .ref y])), (sm, .inl (Y.2 0, 12, .inl ds)), (y, .inr (4, [.int (nI r), .ref a1, .ref a2, .ref a3, .int (nI F), .int (nI N), .int (nI T)])), (a1, .inl (Y.2 0, 12, .inl fr)), (a2, .inl (Y.2 0, 12, .inl le)), (a3, .inl (Y.2 1, 12, .inl fi)), (v, .inr (2, [.int (nI n), .ref a, .ref b])), (a, .inl (Y.2 0, 100, .inl f)), (b, .inl (Y.2 0, 256, .inl g))] H → va_D (fun z => z ∈ [dk, sm, y, a1, a2, a3, v, a, b]) [(dk, .inr (0, [.int (nI r), .ref sm, .ref y])), (sm, .inl (Y.2 0, 12, .inl ds)), (y, .inr (4, [.int (nI r), .ref a1, .ref a2, .ref a3, .int (nI F), .int (nI N), .int (nI T)])), (a1, .inl (Y.2 0, 12, .inl fr)), (a2, .inl (Y.2 0, 12, .inl le)), (a3, .inl (Y.2 1, 12, .inl fi)), (v, .inr (2, [.int (nI n), .ref a, .ref b])), (a, .inl (Y.2 0, 100, .inl f)), (b, .inl (Y.2 0, 256, .inl g))] → va_S (fun z => z ∈ [dk, sm, y, a1, a2, a3, v, a, b]) H0 H locs → lv_has ls 3 [(0, .ref dk), (1, .ref v), (2, .int (nI j))] → W p l e (th_rm 3 0 0) s m args below meth c H locs 0 0 Q (F0 m 13 ls []) := by
    intro n_2; induction n_2 with
    | zero => intros; exfalso; omega
    | succ n_2 ih =>
      intro j ds H locs ls hmz hj hs hP hD hS hl
      refine lv_iload_n hx hb dX0_takeRoots_13 rfl (lv_at hl 2 rfl) ?_
      refine lv_aload_n hx hb dX0_takeRoots_14 rfl (lv_at hl 0 rfl) ?_
      refine va_get (D := Y.1) (ci := 0) (v := .int (nI r)) (C := RX0) (T := TX0) (N := 3) hx hb hts inX0 hown hK hP 0 rfl rfl 0 (by decide) (hts _ tw_1_63) (fun _ h9 => h9) rfl dX0_takeRoots_15 ?_
      refine th_ige (tgt := 51) hx hb dX0_takeRoots_18 (by decide) (by omega) (by omega) (fun c_3 => ?_) (fun c_3 => ?_)
      · skip
        refine th_vret hx hb hr hlk hQ hS dX0_takeRoots_51 (Nat.le_of_ble_eq_true rfl) (Nat.le_of_ble_eq_true rfl) ?_
        exact ⟨rfl, ds, hP, fun k hk => hs k (by omega)⟩
      refine lv_iload_n hx hb dX0_takeRoots_21 rfl (lv_at hl 2 rfl) ?_
      refine lv_aload_n hx hb dX0_takeRoots_22 rfl (lv_at hl 0 rfl) ?_
      refine va_get (D := Y.1) (ci := 0) (v := .ref sm) (C := RX0) (T := TX0) (N := 3) hx hb hts inX0 hown hK hP 0 rfl rfl 1 (by decide) (hts _ tw_1_65) (fun _ h9 => h9) rfl dX0_takeRoots_23 ?_
      refine va_alen (v := nI 12) hx hb hK hP 1 0 rfl rfl rfl dX0_takeRoots_26 ?_
      refine th_ige (tgt := 51) hx hb dX0_takeRoots_27 (by decide) (by omega) (by omega) (fun c_4 => by exfalso; omega) (fun c_4 => ?_)
      refine lv_aload_n hx hb dX0_takeRoots_30 rfl (lv_at hl 0 rfl) ?_
      refine va_get (D := Y.1) (ci := 0) (v := .ref sm) (C := RX0) (T := TX0) (N := 3) hx hb hts inX0 hown hK hP 0 rfl rfl 1 (by decide) (hts _ tw_1_65) (fun _ h9 => h9) rfl dX0_takeRoots_31 ?_
      refine lv_iload_n hx hb dX0_takeRoots_34 rfl (lv_at hl 2 rfl) ?_
      refine lv_aload_n hx hb dX0_takeRoots_35 rfl (lv_at hl 0 rfl) ?_
      refine va_get (D := Y.1) (ci := 0) (v := .ref y) (C := RX0) (T := TX0) (N := 3) hx hb hts inX0 hown hK hP 0 rfl rfl 2 (by decide) (hts _ tw_1_66) (fun _ h9 => h9) rfl dX0_takeRoots_36 ?_
      refine lv_aload_n hx hb dX0_takeRoots_39 rfl (lv_at hl 1 rfl) ?_
      refine lv_iload_n hx hb dX0_takeRoots_40 rfl (lv_at hl 2 rfl) ?_
      refine th_callV hx hb hml hown hts ⟨hK, hN⟩ hl hS (hP 2 _ rfl) rfl (rest := [.int (nI j), .ref sm]) (c_X4_rootOfPlace l Y _ y a1 a2 a3 r F N T fr le fi v a b n f g (hP.sub (ws' := [(y, .inr (4, [.int (nI r), .ref a1, .ref a2, .ref a3, .int (nI F), .int (nI N), .int (nI T)])), (a1, .inl (Y.2 0, 12, .inl fr)), (a2, .inl (Y.2 0, 12, .inl le)), (a3, .inl (Y.2 1, 12, .inl fi)), (v, .inr (2, [.int (nI n), .ref a, .ref b])), (a, .inl (Y.2 0, 100, .inl f)), (b, .inl (Y.2 0, 256, .inl g))]) [2, 3, 4, 5, 6, 7, 8] rfl) B L9 Fi hw hok (by omega) (by omega) hB j (by omega)) ok_X4_rootOfPlace tw_2_164 dX0_takeRoots_41 rfl rfl (Nat.le_of_ble_eq_true rfl) ⟨Nat.le_of_ble_eq_true rfl, Nat.le_of_ble_eq_true rfl⟩ ⟨Nat.le_of_ble_eq_true rfl, Nat.le_of_ble_eq_true rfl⟩ (fun _ h => h.elim) (th_kpi (fun locs hS => ?_))
      refine th_iast hx hb hK hP hD hS 1 rfl (j := j) (by omega) (by omega) dX0_takeRoots_44 (fun H locs hP hD hS => ?_)
      have hP : va_P Y.1 vwCl [(dk, .inr (0, [.int (nI r), .ref sm, .ref y])), (sm, .inl (Y.2 0, 12, .inl (upd ds j (th_pS f B L9 r j)))), (y, .inr (4, [.int (nI r), .ref a1, .ref a2, .ref a3, .int (nI F), .int (nI N), .int (nI T)])), (a1, .inl (Y.2 0, 12, .inl fr)), (a2, .inl (Y.2 0, 12, .inl le)), (a3, .inl (Y.2 1, 12, .inl fi)), (v, .inr (2, [.int (nI n), .ref a, .ref b])), (a, .inl (Y.2 0, 100, .inl f)), (b, .inl (Y.2 0, 256, .inl g))] _ := hP
      have hD : va_D _ [(dk, .inr (0, [.int (nI r), .ref sm, .ref y])), (sm, .inl (Y.2 0, 12, .inl (upd ds j (th_pS f B L9 r j)))), (y, .inr (4, [.int (nI r), .ref a1, .ref a2, .ref a3, .int (nI F), .int (nI N), .int (nI T)])), (a1, .inl (Y.2 0, 12, .inl fr)), (a2, .inl (Y.2 0, 12, .inl le)), (a3, .inl (Y.2 1, 12, .inl fi)), (v, .inr (2, [.int (nI n), .ref a, .ref b])), (a, .inl (Y.2 0, 100, .inl f)), (b, .inl (Y.2 0, 256, .inl g))] := hD
      refine lv_iinc (v := nI (j + 1)) (lv' := [(2, .int (nI (j + 1))), (0, .ref dk), (1, .ref v)]) hx hb dX0_takeRoots_45 hl (k := 2) rfl (nI_add _ 1) (by decide) rfl (fun ls hl => ?_)
      refine lv_goto (tgt := 13) hx hb dX0_takeRoots_48 (by decide) ?_
      exact ih (j + 1) (upd ds j (th_pS f B L9 r j)) _ _ _ (by omega) (by omega) (fun k hk => by by_cases z : k = j; (subst z; exact pk_us); (rw [pk_un z]; exact hs k (by omega))) hP hD hS (lv_sub hl [1, 2, 0] rfl)
  exact lp_1 ((r - (0)) + 1) (0) (ds) _ _ _ (Nat.lt_succ_self _) (by omega) (fun k hk => by omega) hP hD hS (lv_sub hl [1, 2, 0] rfl)

set_option maxRecDepth 100000 in
set_option maxHeartbeats 4000000 in
theorem c_X1_valueAt (l : Launch) (Y : th_Y) (H : Heap) (km kva ksa : Nat) (kv ks : Nat → Int32) (hP : va_P Y.1 vwCl [(km, .inr (1, [.ref kva, .ref ksa])), (kva, .inl (Y.2 0, 64, .inl kv)), (ksa, .inl (Y.2 0, 128, .inl ks))] H) (key : Nat) (hk : key < 64) : th_P l Y yX1_valueAt cX1_valueAt 2 (some .int) (th_rm 0 0 0) [.ref km, .int (nI key)] H (fun r9 => r9 = some (.int (kv key))) := by
  refine th_M.intro (by decide) (Nat.le_of_ble_eq_true rfl) ?_
  intro p e s m args below meth c ls Q hQ C hKN hl hS
  obtain ⟨hx, hb, hr, hml, hown, hts, hlk, hnm⟩ := C
  obtain ⟨hK, hN⟩ := hKN
  have hown : s.vm.findClass RX1 = some m.cls := hown
  have hl : lv_has ls 2 [(0, .ref km), (1, .int (nI key))] := hl
  refine lv_iload_n hx hb dX1_valueAt_0 rfl (lv_at hl 1 rfl) ?_
  refine th_zlt (tgt := 22) hx hb dX1_valueAt_1 (by decide) (by omega) ?_
  refine lv_iload_n hx hb dX1_valueAt_4 rfl (lv_at hl 1 rfl) ?_
  refine lv_aload_n hx hb dX1_valueAt_5 rfl (lv_at hl 0 rfl) ?_
  refine va_get (D := Y.1) (ci := 1) (v := .ref kva) (C := RX1) (T := TX1) (N := 2) hx hb hts inX1 hown hK hP 0 rfl rfl 0 (by decide) (hts _ tw_1_80) (fun _ h9 => h9) rfl dX1_valueAt_6 ?_
  refine va_alen (v := nI 64) hx hb hK hP 1 0 rfl rfl rfl dX1_valueAt_9 ?_
  refine th_ige (tgt := 22) hx hb dX1_valueAt_10 (by decide) (by omega) (by omega) (fun c_1 => by exfalso; omega) (fun c_1 => ?_)
  refine lv_aload_n hx hb dX1_valueAt_13 rfl (lv_at hl 0 rfl) ?_
  refine va_get (D := Y.1) (ci := 1) (v := .ref kva) (C := RX1) (T := TX1) (N := 2) hx hb hts inX1 hown hK hP 0 rfl rfl 0 (by decide) (hts _ tw_1_80) (fun _ h9 => h9) rfl dX1_valueAt_14 ?_
  refine lv_iload_n hx hb dX1_valueAt_17 rfl (lv_at hl 1 rfl) ?_
  refine th_iald hx hb hK hP 1 rfl (j := key) (by omega) (by omega) dX1_valueAt_18 ?_
  refine lv_goto (tgt := 23) hx hb dX1_valueAt_19 (by decide) ?_
  refine th_iret hx hb hr hlk hQ hS dX1_valueAt_23 (Nat.le_of_ble_eq_true rfl) (Nat.le_of_ble_eq_true rfl) ?_
  exact ⟨rfl, rfl⟩

set_option maxRecDepth 100000 in
set_option maxHeartbeats 4000000 in
theorem c_X1_rootSum (l : Launch) (Y : th_Y) (H : Heap) (km kva ksa : Nat) (kv ks : Nat → Int32) (hP : va_P Y.1 vwCl [(km, .inr (1, [.ref kva, .ref ksa])), (kva, .inl (Y.2 0, 64, .inl kv)), (ksa, .inl (Y.2 0, 128, .inl ks))] H) (hM : th_MI kv ks) : th_P l Y yX1_rootSum cX1_rootSum 1 (some .int) (th_rm 0 0 0) [.ref km] H (fun r9 => r9 = some (.int (th_lv kv 6 0))) := by
  refine th_M.intro (by decide) (Nat.le_of_ble_eq_true rfl) ?_
  intro p e s m args below meth c ls Q hQ C hKN hl hS
  obtain ⟨hx, hb, hr, hml, hown, hts, hlk, hnm⟩ := C
  obtain ⟨hK, hN⟩ := hKN
  have hown : s.vm.findClass RX1 = some m.cls := hown
  have hl : lv_has ls 1 [(0, .ref km)] := hl
  refine lv_aload_n hx hb dX1_rootSum_0 rfl (lv_at hl 0 rfl) ?_
  refine va_get (D := Y.1) (ci := 1) (v := .ref ksa) (C := RX1) (T := TX1) (N := 2) hx hb hts inX1 hown hK hP 0 rfl rfl 1 (by decide) (hts _ tw_1_81) (fun _ h9 => h9) rfl dX1_rootSum_1 ?_
  refine lv_iconst (v := nI 1) hx hb dX1_rootSum_4 (by decide) ?_
  refine th_iald hx hb hK hP 2 rfl (j := 1) (by omega) (by omega) dX1_rootSum_5 ?_
  refine th_iret hx hb hr hlk hQ hS dX1_rootSum_6 (Nat.le_of_ble_eq_true rfl) (Nat.le_of_ble_eq_true rfl) ?_
  exact ⟨congrArg (fun z => some (Value.int z)) (hM 6 0 (by decide) (by decide)), rfl⟩

set_option maxRecDepth 100000 in
set_option maxHeartbeats 4000000 in
theorem c_X1_sumBeside (l : Launch) (Y : th_Y) (H : Heap) (km kva ksa : Nat) (kv ks : Nat → Int32) (hP : va_P Y.1 vwCl [(km, .inr (1, [.ref kva, .ref ksa])), (kva, .inl (Y.2 0, 64, .inl kv)), (ksa, .inl (Y.2 0, 128, .inl ks))] H) (hM : th_MI kv ks) (key t : Nat) (hk : key < 64) (ht : t < 6) : th_P l Y yX1_sumBeside cX1_sumBeside 3 (some .int) (th_rm 0 0 0) [.ref km, .int (nI key), .int (nI t)] H (fun r9 => r9 = some (.int (th_lv kv t (key / 2 ^ t ^^^ 1)))) := by
  refine th_M.intro (by decide) (Nat.le_of_ble_eq_true rfl) ?_
  intro p e s m args below meth c ls Q hQ C hKN hl hS
  obtain ⟨hx, hb, hr, hml, hown, hts, hlk, hnm⟩ := C
  obtain ⟨hK, hN⟩ := hKN
  have hown : s.vm.findClass RX1 = some m.cls := hown
  have hl : lv_has ls 3 [(0, .ref km), (1, .int (nI key)), (2, .int (nI t))] := hl
  refine lv_iload_n hx hb dX1_sumBeside_0 rfl (lv_at hl 1 rfl) ?_
  refine th_zlt (tgt := 20) hx hb dX1_sumBeside_1 (by decide) (by omega) ?_
  refine lv_iload_n hx hb dX1_sumBeside_4 rfl (lv_at hl 1 rfl) ?_
  refine lv_bipush (v := nI 64) hx hb dX1_sumBeside_5 (by decide) ?_
  refine th_ige (tgt := 20) hx hb dX1_sumBeside_7 (by decide) (by omega) (by omega) (fun c_1 => by exfalso; omega) (fun c_1 => ?_)
  refine lv_iload_n hx hb dX1_sumBeside_10 rfl (lv_at hl 2 rfl) ?_
  refine th_zlt (tgt := 20) hx hb dX1_sumBeside_11 (by decide) (by omega) ?_
  refine lv_iload_n hx hb dX1_sumBeside_14 rfl (lv_at hl 2 rfl) ?_
  refine lv_bipush (v := nI 6) hx hb dX1_sumBeside_15 (by decide) ?_
  refine th_ilt (tgt := 22) hx hb dX1_sumBeside_17 (by decide) (by omega) (by omega) (fun c_2 => ?_) (fun c_2 => by exfalso; omega)
  obtain ⟨ux1, ux2⟩ := th_xorK key hk t ht
  have ux3 : 64 / 2 ^ t ≤ 64 := Nat.div_le_self _ _
  have ux4 : (64 + key) / 2 ^ t ≤ 64 + key := Nat.div_le_self _ _
  refine lv_aload_n hx hb dX1_sumBeside_22 rfl (lv_at hl 0 rfl) ?_
  refine va_get (D := Y.1) (ci := 1) (v := .ref ksa) (C := RX1) (T := TX1) (N := 2) hx hb hts inX1 hown hK hP 0 rfl rfl 1 (by decide) (hts _ tw_1_81) (fun _ h9 => h9) rfl dX1_sumBeside_23 ?_
  refine lv_bipush (v := nI 64) hx hb dX1_sumBeside_26 (by decide) ?_
  refine lv_iload_n hx hb dX1_sumBeside_28 rfl (lv_at hl 1 rfl) ?_
  refine lv_iadd hx hb dX1_sumBeside_29 ?_
  refine th_ti (nI_add _ _) ?_
  refine lv_iload_n hx hb dX1_sumBeside_30 rfl (lv_at hl 2 rfl) ?_
  refine lv_ishr hx hb dX1_sumBeside_31 ?_
  refine th_ti (show (nI (64 + key)) >>> ((nI t) &&& 31) = nI ((64 + key) / 2 ^ t) from pk_shrN (by omega) _ t (th_s5 t (by omega))) ?_
  refine lv_iconst (v := nI 1) hx hb dX1_sumBeside_32 (by decide) ?_
  refine lv_ixor hx hb dX1_sumBeside_33 ?_
  refine th_ti (show (nI ((64 + key) / 2 ^ t)) ^^^ (nI 1) = nI (64 / 2 ^ t + (key / 2 ^ t ^^^ 1)) from (th_xor1 _ (by omega)).trans (congrArg nI ux1)) ?_
  refine th_iald hx hb hK hP 2 rfl (j := (64 / 2 ^ t + (key / 2 ^ t ^^^ 1))) (by omega) (by omega) dX1_sumBeside_34 ?_
  refine th_iret hx hb hr hlk hQ hS dX1_sumBeside_35 (Nat.le_of_ble_eq_true rfl) (Nat.le_of_ble_eq_true rfl) ?_
  exact ⟨by rw [hM t _ (by omega) ux2], rfl⟩

set_option maxRecDepth 100000 in
set_option maxHeartbeats 4000000 in
theorem c_X1_replace (l : Launch) (Y : th_Y) (H0 : Heap) (km kva ksa : Nat) (kv ks : Nat → Int32) (hP : va_P Y.1 vwCl [(km, .inr (1, [.ref kva, .ref ksa])), (kva, .inl (Y.2 0, 64, .inl kv)), (ksa, .inl (Y.2 0, 128, .inl ks))] H0) (hD0 : va_D (fun _ => True) [(km, .inr (1, [.ref kva, .ref ksa])), (kva, .inl (Y.2 0, 64, .inl kv)), (ksa, .inl (Y.2 0, 128, .inl ks))]) (hM : th_MI kv ks) (key : Nat) (x : Int32) (hk : key < 64) : th_M l Y yX1_replace cX1_replace 6 (some .int) (th_rm 2 0 0) [.ref km, .int (nI key), .int x] H0 (fun z => z ∈ [km, kva, ksa]) (fun r' H' => ∃ x' : Int32, r' = some (.int x') ∧ x' = kv key ∧ ∃ ks', va_P Y.1 vwCl [(km, .inr (1, [.ref kva, .ref ksa])), (kva, .inl (Y.2 0, 64, .inl (upd kv key x))), (ksa, .inl (Y.2 0, 128, .inl ks'))] H' ∧ th_MI (upd kv key x) ks') := by
  refine th_M.intro (by decide) (Nat.le_of_ble_eq_true rfl) ?_
  intro p e s m args below meth c ls Q hQ C hKN hl hS
  obtain ⟨hx, hb, hr, hml, hown, hts, hlk, hnm⟩ := C
  obtain ⟨hK, hN⟩ := hKN
  have hown : s.vm.findClass RX1 = some m.cls := hown
  have hl : lv_has ls 6 [(0, .ref km), (1, .int (nI key)), (2, .int x)] := hl
  have hD : va_D (fun z => z ∈ [km, kva, ksa]) [(km, .inr (1, [.ref kva, .ref ksa])), (kva, .inl (Y.2 0, 64, .inl kv)), (ksa, .inl (Y.2 0, 128, .inl ks))] := th_mem hD0
  refine lv_iload_n hx hb dX1_replace_0 rfl (lv_at hl 1 rfl) ?_
  refine th_zlt (tgt := 10) hx hb dX1_replace_1 (by decide) (by omega) ?_
  refine lv_iload_n hx hb dX1_replace_4 rfl (lv_at hl 1 rfl) ?_
  refine lv_bipush (v := nI 64) hx hb dX1_replace_5 (by decide) ?_
  refine th_ilt (tgt := 12) hx hb dX1_replace_7 (by decide) (by omega) (by omega) (fun c_1 => ?_) (fun c_1 => by exfalso; omega)
  refine lv_aload_n hx hb dX1_replace_12 rfl (lv_at hl 0 rfl) ?_
  refine va_get (D := Y.1) (ci := 1) (v := .ref kva) (C := RX1) (T := TX1) (N := 2) hx hb hts inX1 hown hK hP 0 rfl rfl 0 (by decide) (hts _ tw_1_80) (fun _ h9 => h9) rfl dX1_replace_13 ?_
  refine lv_iload_n hx hb dX1_replace_16 rfl (lv_at hl 1 rfl) ?_
  refine th_iald hx hb hK hP 1 rfl (j := key) (by omega) (by omega) dX1_replace_17 ?_
  refine lv_istore_n (lv' := [(3, .int (kv key)), (0, .ref km), (1, .int (nI key)), (2, .int x)]) hx hb dX1_replace_18 rfl hl (by decide) rfl (fun ls hl => ?_)
  refine lv_aload_n hx hb dX1_replace_19 rfl (lv_at hl 1 rfl) ?_
  refine va_get (D := Y.1) (ci := 1) (v := .ref kva) (C := RX1) (T := TX1) (N := 2) hx hb hts inX1 hown hK hP 0 rfl rfl 0 (by decide) (hts _ tw_1_80) (fun _ h9 => h9) rfl dX1_replace_20 ?_
  refine lv_iload_n hx hb dX1_replace_23 rfl (lv_at hl 2 rfl) ?_
  refine lv_iload_n hx hb dX1_replace_24 rfl (lv_at hl 3 rfl) ?_
  refine th_iast hx hb hK hP hD hS 1 rfl (j := key) (by omega) (by omega) dX1_replace_25 (fun H locs hP hD hS => ?_)
  have hP : va_P Y.1 vwCl [(km, .inr (1, [.ref kva, .ref ksa])), (kva, .inl (Y.2 0, 64, .inl (upd kv key x))), (ksa, .inl (Y.2 0, 128, .inl ks))] _ := hP
  have hD : va_D _ [(km, .inr (1, [.ref kva, .ref ksa])), (kva, .inl (Y.2 0, 64, .inl (upd kv key x))), (ksa, .inl (Y.2 0, 128, .inl ks))] := hD
  refine lv_bipush (v := nI 64) hx hb dX1_replace_26 (by decide) ?_
  refine lv_iload_n hx hb dX1_replace_28 rfl (lv_at hl 2 rfl) ?_
  refine lv_iadd hx hb dX1_replace_29 ?_
  refine th_ti (nI_add _ _) ?_
  refine lv_istore (lv' := [(4, .int (nI (64 + key))), (3, .int (kv key)), (0, .ref km), (1, .int (nI key)), (2, .int x)]) hx hb dX1_replace_30 hl (by decide) rfl (fun ls hl => ?_)
  refine lv_aload_n hx hb dX1_replace_32 rfl (lv_at hl 2 rfl) ?_
  refine va_get (D := Y.1) (ci := 1) (v := .ref ksa) (C := RX1) (T := TX1) (N := 2) hx hb hts inX1 hown hK hP 0 rfl rfl 1 (by decide) (hts _ tw_1_81) (fun _ h9 => h9) rfl dX1_replace_33 ?_
  refine lv_iload hx hb dX1_replace_36 (lv_at hl 0 rfl) ?_
  refine lv_iload_n hx hb dX1_replace_38 rfl (lv_at hl 4 rfl) ?_
  refine th_callSN hx hb hml hown hts ⟨hK, hN⟩ hl hS (rest := [.int (nI (64 + key)), .ref ksa]) (c_X5_keySum l Y _ x) ok_X5_keySum (tn_3_61 hN) dX1_replace_39 rfl rfl (Nat.le_of_ble_eq_true rfl) ⟨Nat.le_of_ble_eq_true rfl, Nat.le_of_ble_eq_true rfl⟩ ⟨Nat.le_of_ble_eq_true rfl, Nat.le_of_ble_eq_true rfl⟩ (fun _ h => h.elim) (th_kpi (fun locs hS => ?_))
  refine th_iast hx hb hK hP hD hS 2 rfl (j := (64 + key)) (by omega) (by omega) dX1_replace_42 (fun H locs hP hD hS => ?_)
  have hP : va_P Y.1 vwCl [(km, .inr (1, [.ref kva, .ref ksa])), (kva, .inl (Y.2 0, 64, .inl (upd kv key x))), (ksa, .inl (Y.2 0, 128, .inl (upd ks (64 + key) (th_ks x))))] _ := hP
  have hD : va_D _ [(km, .inr (1, [.ref kva, .ref ksa])), (kva, .inl (Y.2 0, 64, .inl (upd kv key x))), (ksa, .inl (Y.2 0, 128, .inl (upd ks (64 + key) (th_ks x))))] := hD
  refine lv_iconst (v := nI 0) hx hb dX1_replace_43 (by decide) ?_
  refine lv_istore (lv' := [(5, .int (nI 0)), (4, .int (nI (64 + key))), (3, .int (kv key)), (0, .ref km), (1, .int (nI key)), (2, .int x)]) hx hb dX1_replace_44 hl (by decide) rfl (fun ls hl => ?_)
  have lp_2 : ∀ (n_3 : Nat) (q : Nat) (t : Nat) (ks : Nat → Int32) (H : Heap) (locs : List Loc) (ls : Array Slot), 6 - t < n_3 → (t ≤ 6) → (q = (64 + key) / 2 ^ t) → (th_MJ (upd kv key x) ks key t) → va_P Y.1 vwCl [(km, .inr (1, [.ref kva, .ref ksa])), (kva, .inl (Y.2 0, 64, .inl (upd kv key x))), (ksa, .inl (Y.2 0, 128, .inl ks))] H → va_D (fun z => z ∈ [km, kva, ksa]) [(km, .inr (1, [.ref kva, .ref ksa])), (kva, .inl (Y.2 0, 64, .inl (upd kv key x))), (ksa, .inl (Y.2 0, 128, .inl ks))] → va_S (fun z => z ∈ [km, kva, ksa]) H0 H locs → lv_has ls 6 [(0, .ref km), (1, .int (nI key)), (2, .int x), (3, .int (kv key)), (4, .int (nI q)), (5, .int (nI t))] → W p l e (th_rm 2 0 0) s m args below meth c H locs 0 0 Q (F0 m 46 ls []) := by
    intro n_3; induction n_3 with
    | zero => intros; exfalso; omega
    | succ n_3 ih =>
      intro q t ks H locs ls hmz ht hq hJ hP hD hS hl
      have h5 : q ≤ 64 + key := by rw [hq]; exact Nat.div_le_self _ _
      refine lv_iload hx hb dX1_replace_46 (lv_at hl 5 rfl) ?_
      refine lv_bipush (v := nI 6) hx hb dX1_replace_48 (by decide) ?_
      refine th_ige (tgt := 95) hx hb dX1_replace_50 (by decide) (by omega) (by omega) (fun c_4 => ?_) (fun c_4 => ?_)
      · skip
        refine lv_iload_n hx hb dX1_replace_95 rfl (lv_at hl 3 rfl) ?_
        refine th_iret hx hb hr hlk hQ hS dX1_replace_96 (Nat.le_of_ble_eq_true rfl) (Nat.le_of_ble_eq_true rfl) ?_
        exact ⟨_, rfl, rfl, ks, hP, th_MJ_e (by omega) hJ⟩
      obtain ⟨k1, k2, k3, k4⟩ := th_MJ_s hk (show t < 6 by omega) hJ hq
      refine lv_iload hx hb dX1_replace_53 (lv_at hl 4 rfl) ?_
      refine lv_iconst (v := nI 1) hx hb dX1_replace_55 (by decide) ?_
      refine lv_ishr hx hb dX1_replace_56 ?_
      refine th_ti (show (nI q) >>> ((nI 1) &&& 31) = nI (q / 2) from pk_shrN (by omega) _ 1 (by decide)) ?_
      refine lv_istore (lv' := [(4, .int (nI (q / 2))), (0, .ref km), (1, .int (nI key)), (2, .int x), (3, .int (kv key)), (5, .int (nI t))]) hx hb dX1_replace_57 hl (by decide) rfl (fun ls hl => ?_)
      refine lv_aload_n hx hb dX1_replace_59 rfl (lv_at hl 1 rfl) ?_
      refine va_get (D := Y.1) (ci := 1) (v := .ref ksa) (C := RX1) (T := TX1) (N := 2) hx hb hts inX1 hown hK hP 0 rfl rfl 1 (by decide) (hts _ tw_1_81) (fun _ h9 => h9) rfl dX1_replace_60 ?_
      refine lv_iload hx hb dX1_replace_63 (lv_at hl 0 rfl) ?_
      refine lv_aload_n hx hb dX1_replace_65 rfl (lv_at hl 1 rfl) ?_
      refine va_get (D := Y.1) (ci := 1) (v := .ref ksa) (C := RX1) (T := TX1) (N := 2) hx hb hts inX1 hown hK hP 0 rfl rfl 1 (by decide) (hts _ tw_1_81) (fun _ h9 => h9) rfl dX1_replace_66 ?_
      refine lv_iconst (v := nI 2) hx hb dX1_replace_69 (by decide) ?_
      refine lv_iload hx hb dX1_replace_70 (lv_at hl 0 rfl) ?_
      refine lv_imul hx hb dX1_replace_72 ?_
      refine th_ti (pk_mul _ _) ?_
      refine th_iald hx hb hK hP 2 rfl (j := (2 * (q / 2))) (by omega) (by omega) dX1_replace_73 ?_
      refine lv_aload_n hx hb dX1_replace_74 rfl (lv_at hl 1 rfl) ?_
      refine va_get (D := Y.1) (ci := 1) (v := .ref ksa) (C := RX1) (T := TX1) (N := 2) hx hb hts inX1 hown hK hP 0 rfl rfl 1 (by decide) (hts _ tw_1_81) (fun _ h9 => h9) rfl dX1_replace_75 ?_
      refine lv_iconst (v := nI 2) hx hb dX1_replace_78 (by decide) ?_
      refine lv_iload hx hb dX1_replace_79 (lv_at hl 0 rfl) ?_
      refine lv_imul hx hb dX1_replace_81 ?_
      refine th_ti (pk_mul _ _) ?_
      refine lv_iconst (v := nI 1) hx hb dX1_replace_82 (by decide) ?_
      refine lv_iadd hx hb dX1_replace_83 ?_
      refine th_ti (nI_add _ _) ?_
      refine th_iald hx hb hK hP 2 rfl (j := ((2 * (q / 2)) + 1)) (by omega) (by omega) dX1_replace_84 ?_
      refine th_callSN hx hb hml hown hts ⟨hK, hN⟩ hl hS (rest := [.int (nI (q / 2)), .ref ksa]) (c_X5_mapMix l Y _ (ks (2 * (q / 2))) (ks ((2 * (q / 2)) + 1))) ok_X5_mapMix (tn_3_62 hN) dX1_replace_85 rfl rfl (Nat.le_of_ble_eq_true rfl) ⟨Nat.le_of_ble_eq_true rfl, Nat.le_of_ble_eq_true rfl⟩ ⟨Nat.le_of_ble_eq_true rfl, Nat.le_of_ble_eq_true rfl⟩ (fun _ h => h.elim) (th_kpi (fun locs hS => ?_))
      refine th_iast hx hb hK hP hD hS 2 rfl (j := (q / 2)) (by omega) (by omega) dX1_replace_88 (fun H locs hP hD hS => ?_)
      have hP : va_P Y.1 vwCl [(km, .inr (1, [.ref kva, .ref ksa])), (kva, .inl (Y.2 0, 64, .inl (upd kv key x))), (ksa, .inl (Y.2 0, 128, .inl (upd ks (q / 2) (th_jn (ks (2 * (q / 2))) (ks ((2 * (q / 2)) + 1))))))] _ := hP
      have hD : va_D _ [(km, .inr (1, [.ref kva, .ref ksa])), (kva, .inl (Y.2 0, 64, .inl (upd kv key x))), (ksa, .inl (Y.2 0, 128, .inl (upd ks (q / 2) (th_jn (ks (2 * (q / 2))) (ks ((2 * (q / 2)) + 1))))))] := hD
      refine lv_iinc (v := nI (t + 1)) (lv' := [(5, .int (nI (t + 1))), (4, .int (nI (q / 2))), (0, .ref km), (1, .int (nI key)), (2, .int x), (3, .int (kv key))]) hx hb dX1_replace_89 hl (k := 5) rfl (nI_add _ 1) (by decide) rfl (fun ls hl => ?_)
      refine lv_goto (tgt := 46) hx hb dX1_replace_92 (by decide) ?_
      exact ih (q / 2) (t + 1) (upd ks (q / 2) (th_jn (ks (2 * (q / 2))) (ks (2 * (q / 2) + 1)))) _ _ _ (by omega) (by omega) (k2) (k1) hP hD hS (lv_sub hl [2, 3, 4, 5, 1, 0] rfl)
  exact lp_2 ((6 - (0)) + 1) (64 + key) (0) (upd ks (64 + key) (th_ks x)) _ _ _ (Nat.lt_succ_self _) (by omega) (by rw [Nat.pow_zero, Nat.div_one]) (th_MJ_0 x hk hM) hP hD hS (lv_sub hl [3, 4, 5, 2, 1, 0] rfl)

set_option maxRecDepth 100000 in
set_option maxHeartbeats 4000000 in
theorem c_X0_takeLeafProof (l : Launch) (Y : th_Y) (H0 : Heap) (dk sm y cnt : Nat) (ds : Nat → Int32) (a1 a2 a3 r F N T : Nat) (fr le fi : Nat → Int32) (v a b n : Nat) (f g : Nat → Int32) (hP : va_P Y.1 vwCl [(dk, .inr (0, [.int (nI cnt), .ref sm, .ref y])), (sm, .inl (Y.2 0, 12, .inl ds)), (y, .inr (4, [.int (nI r), .ref a1, .ref a2, .ref a3, .int (nI F), .int (nI N), .int (nI T)])), (a1, .inl (Y.2 0, 12, .inl fr)), (a2, .inl (Y.2 0, 12, .inl le)), (a3, .inl (Y.2 1, 12, .inl fi)), (v, .inr (2, [.int (nI n), .ref a, .ref b])), (a, .inl (Y.2 0, 100, .inl f)), (b, .inl (Y.2 0, 256, .inl g))] H0) (hD0 : va_D (fun _ => True) [(dk, .inr (0, [.int (nI cnt), .ref sm, .ref y])), (sm, .inl (Y.2 0, 12, .inl ds)), (y, .inr (4, [.int (nI r), .ref a1, .ref a2, .ref a3, .int (nI F), .int (nI N), .int (nI T)])), (a1, .inl (Y.2 0, 12, .inl fr)), (a2, .inl (Y.2 0, 12, .inl le)), (a3, .inl (Y.2 1, 12, .inl fi)), (v, .inr (2, [.int (nI n), .ref a, .ref b])), (a, .inl (Y.2 0, 100, .inl f)), (b, .inl (Y.2 0, 256, .inl g))]) (hn : n ≤ 100) (hB : th_BI f g n) (t m0 : Nat) (ht : t < m0) (hm0 : m0 ≤ n) : th_M l Y yX0_takeLeafProof cX0_takeLeafProof 4 none (th_rm 4 0 0) [.ref dk, .ref v, .int (nI t), .int (nI m0)] H0 (fun z => z ∈ [dk, sm, y, a1, a2, a3, v, a, b]) (fun r' H' => r' = none ∧ ∃ ds', (∃ (r1 F1 N1 T1 : Nat) (fr1 le1 fi1 : Nat → Int32), va_P Y.1 vwCl [(dk, .inr (0, [.int (nI (th_dL (0, m0, t))), .ref sm, .ref y])), (sm, .inl (Y.2 0, 12, .inl ds')), (y, .inr (4, [.int (nI r1), .ref a1, .ref a2, .ref a3, .int (nI F1), .int (nI N1), .int (nI T1)])), (a1, .inl (Y.2 0, 12, .inl fr1)), (a2, .inl (Y.2 0, 12, .inl le1)), (a3, .inl (Y.2 1, 12, .inl fi1)), (v, .inr (2, [.int (nI n), .ref a, .ref b])), (a, .inl (Y.2 0, 100, .inl f)), (b, .inl (Y.2 0, 256, .inl g))] H') ∧ ∀ k, k < th_dL (0, m0, t) → ds' k = th_pS f (th_B (0, m0, t)) (th_L (0, m0, t)) (th_dL (0, m0, t)) k) := by
  refine th_M.intro (by decide) (Nat.le_of_ble_eq_true rfl) ?_
  intro p e s m args below meth c ls Q hQ C hKN hl hS
  obtain ⟨hx, hb, hr, hml, hown, hts, hlk, hnm⟩ := C
  obtain ⟨hK, hN⟩ := hKN
  have hown : s.vm.findClass RX0 = some m.cls := hown
  have hl : lv_has ls 4 [(0, .ref dk), (1, .ref v), (2, .int (nI t)), (3, .int (nI m0))] := hl
  have hD : va_D (fun z => z ∈ [dk, sm, y, a1, a2, a3, v, a, b]) [(dk, .inr (0, [.int (nI cnt), .ref sm, .ref y])), (sm, .inl (Y.2 0, 12, .inl ds)), (y, .inr (4, [.int (nI r), .ref a1, .ref a2, .ref a3, .int (nI F), .int (nI N), .int (nI T)])), (a1, .inl (Y.2 0, 12, .inl fr)), (a2, .inl (Y.2 0, 12, .inl le)), (a3, .inl (Y.2 1, 12, .inl fi)), (v, .inr (2, [.int (nI n), .ref a, .ref b])), (a, .inl (Y.2 0, 100, .inl f)), (b, .inl (Y.2 0, 256, .inl g))] := th_mem hD0
  have hrw := th_rowsL (n := m0) (q := (0, m0, t)) ⟨(by omega : t < m0), (by omega : 0 + m0 ≤ m0), th_al_0 (by omega : m0 ≤ 128)⟩ (by show m0 ≤ 128; omega)
  have hd7 := hrw.1
  refine lv_aload_n hx hb dX0_takeLeafProof_0 rfl (lv_at hl 0 rfl) ?_
  refine va_get (D := Y.1) (ci := 0) (v := .ref y) (C := RX0) (T := TX0) (N := 3) hx hb hts inX0 hown hK hP 0 rfl rfl 2 (by decide) (hts _ tw_1_66) (fun _ h9 => h9) rfl dX0_takeLeafProof_1 ?_
  refine lv_iload_n hx hb dX0_takeLeafProof_4 rfl (lv_at hl 2 rfl) ?_
  refine lv_iload_n hx hb dX0_takeLeafProof_5 rfl (lv_at hl 3 rfl) ?_
  refine th_callV hx hb hml hown hts ⟨hK, hN⟩ hl hS (hP 2 _ rfl) rfl (rest := []) (c_X4_leadToLeaf l Y _ y a1 a2 a3 r F N T fr le fi (hP.sub (ws' := [(y, .inr (4, [.int (nI r), .ref a1, .ref a2, .ref a3, .int (nI F), .int (nI N), .int (nI T)])), (a1, .inl (Y.2 0, 12, .inl fr)), (a2, .inl (Y.2 0, 12, .inl le)), (a3, .inl (Y.2 1, 12, .inl fi))]) [2, 3, 4, 5] rfl) ((hD.sub (ws' := [(y, .inr (4, [.int (nI r), .ref a1, .ref a2, .ref a3, .int (nI F), .int (nI N), .int (nI T)])), (a1, .inl (Y.2 0, 12, .inl fr)), (a2, .inl (Y.2 0, 12, .inl le)), (a3, .inl (Y.2 1, 12, .inl fi))]) [2, 3, 4, 5] (by decide) rfl).weaken (fun _ _ _ _ => trivial)) m0 t (by omega) (by omega)) ok_X4_leadToLeaf tw_2_143 dX0_takeLeafProof_6 rfl rfl (Nat.le_of_ble_eq_true rfl) ⟨Nat.le_of_ble_eq_true rfl, Nat.le_of_ble_eq_true rfl⟩ ⟨Nat.le_of_ble_eq_true rfl, Nat.le_of_ble_eq_true rfl⟩ (fun z hz => by simp only [List.mem_cons, List.not_mem_nil, or_false] at hz ⊢; omega) (th_kv (fun H locs hp hsm hS => ?_))
  obtain ⟨fr, le, fi, hPc, hw⟩ := hp
  have hP : va_P Y.1 vwCl [(dk, .inr (0, [.int (nI cnt), .ref sm, .ref y])), (sm, .inl (Y.2 0, 12, .inl ds)), (y, .inr (4, [.int (nI (th_dL (0, m0, t))), .ref a1, .ref a2, .ref a3, .int (nI ((th_wa (0, m0, t) (th_dL (0, m0, t))).1)), .int (nI ((th_wa (0, m0, t) (th_dL (0, m0, t))).2.1)), .int (nI ((th_wa (0, m0, t) (th_dL (0, m0, t))).2.2))])), (a1, .inl (Y.2 0, 12, .inl fr)), (a2, .inl (Y.2 0, 12, .inl le)), (a3, .inl (Y.2 1, 12, .inl fi)), (v, .inr (2, [.int (nI n), .ref a, .ref b])), (a, .inl (Y.2 0, 100, .inl f)), (b, .inl (Y.2 0, 256, .inl g))] _ := (th_join (wr := [(dk, .inr (0, [.int (nI cnt), .ref sm, .ref y])), (sm, .inl (Y.2 0, 12, .inl ds)), (v, .inr (2, [.int (nI n), .ref a, .ref b])), (a, .inl (Y.2 0, 100, .inl f)), (b, .inl (Y.2 0, 256, .inl g))]) hP hD [0, 1, 6, 7, 8] [2, 3, 4, 5] rfl rfl (by decide) hsm hPc).sub [0, 1, 5, 6, 7, 8, 2, 3, 4] rfl
  have hD : va_D _ [(dk, .inr (0, [.int (nI cnt), .ref sm, .ref y])), (sm, .inl (Y.2 0, 12, .inl ds)), (y, .inr (4, [.int (nI (th_dL (0, m0, t))), .ref a1, .ref a2, .ref a3, .int (nI ((th_wa (0, m0, t) (th_dL (0, m0, t))).1)), .int (nI ((th_wa (0, m0, t) (th_dL (0, m0, t))).2.1)), .int (nI ((th_wa (0, m0, t) (th_dL (0, m0, t))).2.2))])), (a1, .inl (Y.2 0, 12, .inl fr)), (a2, .inl (Y.2 0, 12, .inl le)), (a3, .inl (Y.2 1, 12, .inl fi)), (v, .inr (2, [.int (nI n), .ref a, .ref b])), (a, .inl (Y.2 0, 100, .inl f)), (b, .inl (Y.2 0, 256, .inl g))] := th_Dsame hD rfl
  refine lv_aload_n hx hb dX0_takeLeafProof_9 rfl (lv_at hl 0 rfl) ?_
  refine lv_aload_n hx hb dX0_takeLeafProof_10 rfl (lv_at hl 1 rfl) ?_
  refine th_callV hx hb hml hown hts ⟨hK, hN⟩ hl hS (hP 0 _ rfl) rfl (rest := []) (c_X0_takeRoots l Y _ dk sm y cnt ds a1 a2 a3 (th_dL (0, m0, t)) ((th_wa (0, m0, t) (th_dL (0, m0, t))).1) ((th_wa (0, m0, t) (th_dL (0, m0, t))).2.1) ((th_wa (0, m0, t) (th_dL (0, m0, t))).2.2) fr le fi v a b n f g hP ((hD.sub (ws' := [(dk, .inr (0, [.int (nI cnt), .ref sm, .ref y])), (sm, .inl (Y.2 0, 12, .inl ds)), (y, .inr (4, [.int (nI (th_dL (0, m0, t))), .ref a1, .ref a2, .ref a3, .int (nI ((th_wa (0, m0, t) (th_dL (0, m0, t))).1)), .int (nI ((th_wa (0, m0, t) (th_dL (0, m0, t))).2.1)), .int (nI ((th_wa (0, m0, t) (th_dL (0, m0, t))).2.2))])), (a1, .inl (Y.2 0, 12, .inl fr)), (a2, .inl (Y.2 0, 12, .inl le)), (a3, .inl (Y.2 1, 12, .inl fi)), (v, .inr (2, [.int (nI n), .ref a, .ref b])), (a, .inl (Y.2 0, 100, .inl f)), (b, .inl (Y.2 0, 256, .inl g))]) [0, 1, 2, 3, 4, 5, 6, 7, 8] (by decide) rfl).weaken (fun _ _ _ _ => trivial)) (th_B (0, m0, t)) (th_L (0, m0, t)) (th_F (0, m0, t)) hw (fun i hi => ⟨(hrw.2 i hi).1, Nat.le_trans (hrw.2 i hi).2 hm0⟩) (by omega) (by omega) hB) ok_X0_takeRoots tw_2_160 dX0_takeLeafProof_11 rfl rfl (Nat.le_of_ble_eq_true rfl) ⟨Nat.le_of_ble_eq_true rfl, Nat.le_of_ble_eq_true rfl⟩ ⟨Nat.le_of_ble_eq_true rfl, Nat.le_of_ble_eq_true rfl⟩ (fun z hz => by simp only [List.mem_cons, List.not_mem_nil, or_false] at hz ⊢; omega) (th_kv (fun H locs hp hsm hS => ?_))
  obtain ⟨ds, hPc, hds⟩ := hp
  have hP : va_P Y.1 vwCl [(dk, .inr (0, [.int (nI (th_dL (0, m0, t))), .ref sm, .ref y])), (sm, .inl (Y.2 0, 12, .inl ds)), (y, .inr (4, [.int (nI (th_dL (0, m0, t))), .ref a1, .ref a2, .ref a3, .int (nI ((th_wa (0, m0, t) (th_dL (0, m0, t))).1)), .int (nI ((th_wa (0, m0, t) (th_dL (0, m0, t))).2.1)), .int (nI ((th_wa (0, m0, t) (th_dL (0, m0, t))).2.2))])), (a1, .inl (Y.2 0, 12, .inl fr)), (a2, .inl (Y.2 0, 12, .inl le)), (a3, .inl (Y.2 1, 12, .inl fi)), (v, .inr (2, [.int (nI n), .ref a, .ref b])), (a, .inl (Y.2 0, 100, .inl f)), (b, .inl (Y.2 0, 256, .inl g))] _ := hPc
  have hD : va_D _ [(dk, .inr (0, [.int (nI (th_dL (0, m0, t))), .ref sm, .ref y])), (sm, .inl (Y.2 0, 12, .inl ds)), (y, .inr (4, [.int (nI (th_dL (0, m0, t))), .ref a1, .ref a2, .ref a3, .int (nI ((th_wa (0, m0, t) (th_dL (0, m0, t))).1)), .int (nI ((th_wa (0, m0, t) (th_dL (0, m0, t))).2.1)), .int (nI ((th_wa (0, m0, t) (th_dL (0, m0, t))).2.2))])), (a1, .inl (Y.2 0, 12, .inl fr)), (a2, .inl (Y.2 0, 12, .inl le)), (a3, .inl (Y.2 1, 12, .inl fi)), (v, .inr (2, [.int (nI n), .ref a, .ref b])), (a, .inl (Y.2 0, 100, .inl f)), (b, .inl (Y.2 0, 256, .inl g))] := th_Dsame hD rfl
  refine th_vret hx hb hr hlk hQ hS dX0_takeLeafProof_14 (Nat.le_of_ble_eq_true rfl) (Nat.le_of_ble_eq_true rfl) ?_
  exact ⟨rfl, ds, ⟨_, _, _, _, fr, le, fi, hP⟩, hds⟩

set_option maxRecDepth 100000 in
set_option maxHeartbeats 4000000 in
theorem c_X0_takeGrowthProof (l : Launch) (Y : th_Y) (H0 : Heap) (dk sm y cnt : Nat) (ds : Nat → Int32) (a1 a2 a3 r F N T : Nat) (fr le fi : Nat → Int32) (v a b n : Nat) (f g : Nat → Int32) (hP : va_P Y.1 vwCl [(dk, .inr (0, [.int (nI cnt), .ref sm, .ref y])), (sm, .inl (Y.2 0, 12, .inl ds)), (y, .inr (4, [.int (nI r), .ref a1, .ref a2, .ref a3, .int (nI F), .int (nI N), .int (nI T)])), (a1, .inl (Y.2 0, 12, .inl fr)), (a2, .inl (Y.2 0, 12, .inl le)), (a3, .inl (Y.2 1, 12, .inl fi)), (v, .inr (2, [.int (nI n), .ref a, .ref b])), (a, .inl (Y.2 0, 100, .inl f)), (b, .inl (Y.2 0, 256, .inl g))] H0) (hD0 : va_D (fun _ => True) [(dk, .inr (0, [.int (nI cnt), .ref sm, .ref y])), (sm, .inl (Y.2 0, 12, .inl ds)), (y, .inr (4, [.int (nI r), .ref a1, .ref a2, .ref a3, .int (nI F), .int (nI N), .int (nI T)])), (a1, .inl (Y.2 0, 12, .inl fr)), (a2, .inl (Y.2 0, 12, .inl le)), (a3, .inl (Y.2 1, 12, .inl fi)), (v, .inr (2, [.int (nI n), .ref a, .ref b])), (a, .inl (Y.2 0, 100, .inl f)), (b, .inl (Y.2 0, 256, .inl g))]) (hn : n ≤ 100) (hB : th_BI f g n) (k0 m0 : Nat) (hk1 : 1 ≤ k0) (hk0 : k0 ≤ m0) (hm0 : m0 ≤ n) : th_M l Y yX0_takeGrowthProof cX0_takeGrowthProof 4 none (th_rm 4 0 0) [.ref dk, .ref v, .int (nI k0), .int (nI m0)] H0 (fun z => z ∈ [dk, sm, y, a1, a2, a3, v, a, b]) (fun r' H' => r' = none ∧ ∃ ds', (∃ (r1 F1 N1 T1 : Nat) (fr1 le1 fi1 : Nat → Int32), va_P Y.1 vwCl [(dk, .inr (0, [.int (nI (th_gR (0, m0, k0 - 1))), .ref sm, .ref y])), (sm, .inl (Y.2 0, 12, .inl ds')), (y, .inr (4, [.int (nI r1), .ref a1, .ref a2, .ref a3, .int (nI F1), .int (nI N1), .int (nI T1)])), (a1, .inl (Y.2 0, 12, .inl fr1)), (a2, .inl (Y.2 0, 12, .inl le1)), (a3, .inl (Y.2 1, 12, .inl fi1)), (v, .inr (2, [.int (nI n), .ref a, .ref b])), (a, .inl (Y.2 0, 100, .inl f)), (b, .inl (Y.2 0, 256, .inl g))] H') ∧ ∀ k, k < th_gR (0, m0, k0 - 1) → ds' k = th_pS f (th_gB (0, m0, k0 - 1)) (th_gL (0, m0, k0 - 1)) (th_gR (0, m0, k0 - 1)) k) := by
  refine th_M.intro (by decide) (Nat.le_of_ble_eq_true rfl) ?_
  intro p e s m args below meth c ls Q hQ C hKN hl hS
  obtain ⟨hx, hb, hr, hml, hown, hts, hlk, hnm⟩ := C
  obtain ⟨hK, hN⟩ := hKN
  have hown : s.vm.findClass RX0 = some m.cls := hown
  have hl : lv_has ls 4 [(0, .ref dk), (1, .ref v), (2, .int (nI k0)), (3, .int (nI m0))] := hl
  have hD : va_D (fun z => z ∈ [dk, sm, y, a1, a2, a3, v, a, b]) [(dk, .inr (0, [.int (nI cnt), .ref sm, .ref y])), (sm, .inl (Y.2 0, 12, .inl ds)), (y, .inr (4, [.int (nI r), .ref a1, .ref a2, .ref a3, .int (nI F), .int (nI N), .int (nI T)])), (a1, .inl (Y.2 0, 12, .inl fr)), (a2, .inl (Y.2 0, 12, .inl le)), (a3, .inl (Y.2 1, 12, .inl fi)), (v, .inr (2, [.int (nI n), .ref a, .ref b])), (a, .inl (Y.2 0, 100, .inl f)), (b, .inl (Y.2 0, 256, .inl g))] := th_mem hD0
  have hrw := th_rowsG (n := m0) (q := (0, m0, k0 - 1)) ⟨(by omega : k0 - 1 < m0), (by omega : 0 + m0 ≤ m0), th_al_0 (by omega : m0 ≤ 128)⟩ (by show m0 ≤ 128; omega)
  have hd7 := hrw.1
  refine lv_aload_n hx hb dX0_takeGrowthProof_0 rfl (lv_at hl 0 rfl) ?_
  refine va_get (D := Y.1) (ci := 0) (v := .ref y) (C := RX0) (T := TX0) (N := 3) hx hb hts inX0 hown hK hP 0 rfl rfl 2 (by decide) (hts _ tw_1_66) (fun _ h9 => h9) rfl dX0_takeGrowthProof_1 ?_
  refine lv_iload_n hx hb dX0_takeGrowthProof_4 rfl (lv_at hl 2 rfl) ?_
  refine lv_iload_n hx hb dX0_takeGrowthProof_5 rfl (lv_at hl 3 rfl) ?_
  refine th_callV hx hb hml hown hts ⟨hK, hN⟩ hl hS (hP 2 _ rfl) rfl (rest := []) (c_X4_leadToGrowth l Y _ y a1 a2 a3 r F N T fr le fi (hP.sub (ws' := [(y, .inr (4, [.int (nI r), .ref a1, .ref a2, .ref a3, .int (nI F), .int (nI N), .int (nI T)])), (a1, .inl (Y.2 0, 12, .inl fr)), (a2, .inl (Y.2 0, 12, .inl le)), (a3, .inl (Y.2 1, 12, .inl fi))]) [2, 3, 4, 5] rfl) ((hD.sub (ws' := [(y, .inr (4, [.int (nI r), .ref a1, .ref a2, .ref a3, .int (nI F), .int (nI N), .int (nI T)])), (a1, .inl (Y.2 0, 12, .inl fr)), (a2, .inl (Y.2 0, 12, .inl le)), (a3, .inl (Y.2 1, 12, .inl fi))]) [2, 3, 4, 5] (by decide) rfl).weaken (fun _ _ _ _ => trivial)) m0 k0 (by omega) (by omega) (by omega)) ok_X4_leadToGrowth tw_2_180 dX0_takeGrowthProof_6 rfl rfl (Nat.le_of_ble_eq_true rfl) ⟨Nat.le_of_ble_eq_true rfl, Nat.le_of_ble_eq_true rfl⟩ ⟨Nat.le_of_ble_eq_true rfl, Nat.le_of_ble_eq_true rfl⟩ (fun z hz => by simp only [List.mem_cons, List.not_mem_nil, or_false] at hz ⊢; omega) (th_kv (fun H locs hp hsm hS => ?_))
  obtain ⟨fr, le, fi, hPc, hw⟩ := hp
  have hP : va_P Y.1 vwCl [(dk, .inr (0, [.int (nI cnt), .ref sm, .ref y])), (sm, .inl (Y.2 0, 12, .inl ds)), (y, .inr (4, [.int (nI (th_gR (0, m0, k0 - 1))), .ref a1, .ref a2, .ref a3, .int (nI ((th_wa (0, m0, k0 - 1) (th_dG (0, m0, k0 - 1))).1)), .int (nI ((th_wa (0, m0, k0 - 1) (th_dG (0, m0, k0 - 1))).2.1)), .int (nI ((th_wa (0, m0, k0 - 1) (th_dG (0, m0, k0 - 1))).2.2))])), (a1, .inl (Y.2 0, 12, .inl fr)), (a2, .inl (Y.2 0, 12, .inl le)), (a3, .inl (Y.2 1, 12, .inl fi)), (v, .inr (2, [.int (nI n), .ref a, .ref b])), (a, .inl (Y.2 0, 100, .inl f)), (b, .inl (Y.2 0, 256, .inl g))] _ := (th_join (wr := [(dk, .inr (0, [.int (nI cnt), .ref sm, .ref y])), (sm, .inl (Y.2 0, 12, .inl ds)), (v, .inr (2, [.int (nI n), .ref a, .ref b])), (a, .inl (Y.2 0, 100, .inl f)), (b, .inl (Y.2 0, 256, .inl g))]) hP hD [0, 1, 6, 7, 8] [2, 3, 4, 5] rfl rfl (by decide) hsm hPc).sub [0, 1, 5, 6, 7, 8, 2, 3, 4] rfl
  have hD : va_D _ [(dk, .inr (0, [.int (nI cnt), .ref sm, .ref y])), (sm, .inl (Y.2 0, 12, .inl ds)), (y, .inr (4, [.int (nI (th_gR (0, m0, k0 - 1))), .ref a1, .ref a2, .ref a3, .int (nI ((th_wa (0, m0, k0 - 1) (th_dG (0, m0, k0 - 1))).1)), .int (nI ((th_wa (0, m0, k0 - 1) (th_dG (0, m0, k0 - 1))).2.1)), .int (nI ((th_wa (0, m0, k0 - 1) (th_dG (0, m0, k0 - 1))).2.2))])), (a1, .inl (Y.2 0, 12, .inl fr)), (a2, .inl (Y.2 0, 12, .inl le)), (a3, .inl (Y.2 1, 12, .inl fi)), (v, .inr (2, [.int (nI n), .ref a, .ref b])), (a, .inl (Y.2 0, 100, .inl f)), (b, .inl (Y.2 0, 256, .inl g))] := th_Dsame hD rfl
  refine lv_aload_n hx hb dX0_takeGrowthProof_9 rfl (lv_at hl 0 rfl) ?_
  refine lv_aload_n hx hb dX0_takeGrowthProof_10 rfl (lv_at hl 1 rfl) ?_
  refine th_callV hx hb hml hown hts ⟨hK, hN⟩ hl hS (hP 0 _ rfl) rfl (rest := []) (c_X0_takeRoots l Y _ dk sm y cnt ds a1 a2 a3 (th_gR (0, m0, k0 - 1)) ((th_wa (0, m0, k0 - 1) (th_dG (0, m0, k0 - 1))).1) ((th_wa (0, m0, k0 - 1) (th_dG (0, m0, k0 - 1))).2.1) ((th_wa (0, m0, k0 - 1) (th_dG (0, m0, k0 - 1))).2.2) fr le fi v a b n f g hP ((hD.sub (ws' := [(dk, .inr (0, [.int (nI cnt), .ref sm, .ref y])), (sm, .inl (Y.2 0, 12, .inl ds)), (y, .inr (4, [.int (nI (th_gR (0, m0, k0 - 1))), .ref a1, .ref a2, .ref a3, .int (nI ((th_wa (0, m0, k0 - 1) (th_dG (0, m0, k0 - 1))).1)), .int (nI ((th_wa (0, m0, k0 - 1) (th_dG (0, m0, k0 - 1))).2.1)), .int (nI ((th_wa (0, m0, k0 - 1) (th_dG (0, m0, k0 - 1))).2.2))])), (a1, .inl (Y.2 0, 12, .inl fr)), (a2, .inl (Y.2 0, 12, .inl le)), (a3, .inl (Y.2 1, 12, .inl fi)), (v, .inr (2, [.int (nI n), .ref a, .ref b])), (a, .inl (Y.2 0, 100, .inl f)), (b, .inl (Y.2 0, 256, .inl g))]) [0, 1, 2, 3, 4, 5, 6, 7, 8] (by decide) rfl).weaken (fun _ _ _ _ => trivial)) (th_gB (0, m0, k0 - 1)) (th_gL (0, m0, k0 - 1)) (th_gF (0, m0, k0 - 1)) hw (fun i hi => ⟨(hrw.2.2 i hi).1, Nat.le_trans (hrw.2.2 i hi).2 hm0⟩) (by omega) (by omega) hB) ok_X0_takeRoots tw_2_160 dX0_takeGrowthProof_11 rfl rfl (Nat.le_of_ble_eq_true rfl) ⟨Nat.le_of_ble_eq_true rfl, Nat.le_of_ble_eq_true rfl⟩ ⟨Nat.le_of_ble_eq_true rfl, Nat.le_of_ble_eq_true rfl⟩ (fun z hz => by simp only [List.mem_cons, List.not_mem_nil, or_false] at hz ⊢; omega) (th_kv (fun H locs hp hsm hS => ?_))
  obtain ⟨ds, hPc, hds⟩ := hp
  have hP : va_P Y.1 vwCl [(dk, .inr (0, [.int (nI (th_gR (0, m0, k0 - 1))), .ref sm, .ref y])), (sm, .inl (Y.2 0, 12, .inl ds)), (y, .inr (4, [.int (nI (th_gR (0, m0, k0 - 1))), .ref a1, .ref a2, .ref a3, .int (nI ((th_wa (0, m0, k0 - 1) (th_dG (0, m0, k0 - 1))).1)), .int (nI ((th_wa (0, m0, k0 - 1) (th_dG (0, m0, k0 - 1))).2.1)), .int (nI ((th_wa (0, m0, k0 - 1) (th_dG (0, m0, k0 - 1))).2.2))])), (a1, .inl (Y.2 0, 12, .inl fr)), (a2, .inl (Y.2 0, 12, .inl le)), (a3, .inl (Y.2 1, 12, .inl fi)), (v, .inr (2, [.int (nI n), .ref a, .ref b])), (a, .inl (Y.2 0, 100, .inl f)), (b, .inl (Y.2 0, 256, .inl g))] _ := hPc
  have hD : va_D _ [(dk, .inr (0, [.int (nI (th_gR (0, m0, k0 - 1))), .ref sm, .ref y])), (sm, .inl (Y.2 0, 12, .inl ds)), (y, .inr (4, [.int (nI (th_gR (0, m0, k0 - 1))), .ref a1, .ref a2, .ref a3, .int (nI ((th_wa (0, m0, k0 - 1) (th_dG (0, m0, k0 - 1))).1)), .int (nI ((th_wa (0, m0, k0 - 1) (th_dG (0, m0, k0 - 1))).2.1)), .int (nI ((th_wa (0, m0, k0 - 1) (th_dG (0, m0, k0 - 1))).2.2))])), (a1, .inl (Y.2 0, 12, .inl fr)), (a2, .inl (Y.2 0, 12, .inl le)), (a3, .inl (Y.2 1, 12, .inl fi)), (v, .inr (2, [.int (nI n), .ref a, .ref b])), (a, .inl (Y.2 0, 100, .inl f)), (b, .inl (Y.2 0, 256, .inl g))] := th_Dsame hD rfl
  refine th_vret hx hb hr hlk hQ hS dX0_takeGrowthProof_14 (Nat.le_of_ble_eq_true rfl) (Nat.le_of_ble_eq_true rfl) ?_
  exact ⟨rfl, ds, ⟨_, _, _, _, fr, le, fi, hP⟩, hds⟩

set_option maxRecDepth 100000 in
set_option maxHeartbeats 4000000 in
theorem c_X0_takeKeyProof (l : Launch) (Y : th_Y) (H0 : Heap) (dk sm y cnt : Nat) (ds : Nat → Int32) (km kva ksa : Nat) (kv ks : Nat → Int32) (hP : va_P Y.1 vwCl [(dk, .inr (0, [.int (nI cnt), .ref sm, .ref y])), (sm, .inl (Y.2 0, 12, .inl ds)), (km, .inr (1, [.ref kva, .ref ksa])), (kva, .inl (Y.2 0, 64, .inl kv)), (ksa, .inl (Y.2 0, 128, .inl ks))] H0) (hD0 : va_D (fun _ => True) [(dk, .inr (0, [.int (nI cnt), .ref sm, .ref y])), (sm, .inl (Y.2 0, 12, .inl ds)), (km, .inr (1, [.ref kva, .ref ksa])), (kva, .inl (Y.2 0, 64, .inl kv)), (ksa, .inl (Y.2 0, 128, .inl ks))]) (hM : th_MI kv ks) (key : Nat) (hk : key < 64) : th_M l Y yX0_takeKeyProof cX0_takeKeyProof 4 none (th_rm 1 0 0) [.ref dk, .ref km, .int (nI key)] H0 (fun z => z ∈ [dk, sm, km, kva, ksa]) (fun r' H' => r' = none ∧ ∃ ds', va_P Y.1 vwCl [(dk, .inr (0, [.int (nI 6), .ref sm, .ref y])), (sm, .inl (Y.2 0, 12, .inl ds')), (km, .inr (1, [.ref kva, .ref ksa])), (kva, .inl (Y.2 0, 64, .inl kv)), (ksa, .inl (Y.2 0, 128, .inl ks))] H' ∧ ∀ k, k < 6 → ds' k = th_lv kv k (key / 2 ^ k ^^^ 1)) := by
  refine th_M.intro (by decide) (Nat.le_of_ble_eq_true rfl) ?_
  intro p e s m args below meth c ls Q hQ C hKN hl hS
  obtain ⟨hx, hb, hr, hml, hown, hts, hlk, hnm⟩ := C
  obtain ⟨hK, hN⟩ := hKN
  have hown : s.vm.findClass RX0 = some m.cls := hown
  have hl : lv_has ls 4 [(0, .ref dk), (1, .ref km), (2, .int (nI key))] := hl
  have hD : va_D (fun z => z ∈ [dk, sm, km, kva, ksa]) [(dk, .inr (0, [.int (nI cnt), .ref sm, .ref y])), (sm, .inl (Y.2 0, 12, .inl ds)), (km, .inr (1, [.ref kva, .ref ksa])), (kva, .inl (Y.2 0, 64, .inl kv)), (ksa, .inl (Y.2 0, 128, .inl ks))] := th_mem hD0
  refine lv_aload_n hx hb dX0_takeKeyProof_0 rfl (lv_at hl 0 rfl) ?_
  refine lv_bipush (v := nI 6) hx hb dX0_takeKeyProof_1 (by decide) ?_
  refine va_put (D := Y.1) (ci := 0) (v := .int (nI 6)) (ty := .int) (C := RX0) (T := TX0) (N := 3) hx hb hts inX0 tyX0 tyX0_ok nmX0 hown hK hP hD hS 0 rfl rfl 0 (by decide) (hts _ tw_1_63) (fun _ h9 => h9) rfl (by decide +kernel) rfl rfl (Nat.le_of_ble_eq_true rfl) dX0_takeKeyProof_3 (fun H locs hP hD hS => ?_)
  have hP : va_P Y.1 vwCl [(dk, .inr (0, [.int (nI 6), .ref sm, .ref y])), (sm, .inl (Y.2 0, 12, .inl ds)), (km, .inr (1, [.ref kva, .ref ksa])), (kva, .inl (Y.2 0, 64, .inl kv)), (ksa, .inl (Y.2 0, 128, .inl ks))] _ := hP
  have hD : va_D _ [(dk, .inr (0, [.int (nI 6), .ref sm, .ref y])), (sm, .inl (Y.2 0, 12, .inl ds)), (km, .inr (1, [.ref kva, .ref ksa])), (kva, .inl (Y.2 0, 64, .inl kv)), (ksa, .inl (Y.2 0, 128, .inl ks))] := hD
  refine lv_iconst (v := nI 0) hx hb dX0_takeKeyProof_6 (by decide) ?_
  refine lv_istore_n (lv' := [(3, .int (nI 0)), (0, .ref dk), (1, .ref km), (2, .int (nI key))]) hx hb dX0_takeKeyProof_7 rfl hl (by decide) rfl (fun ls hl => ?_)
  have lp_1 : ∀ (n_2 : Nat) (j : Nat) (ds : Nat → Int32) (H : Heap) (locs : List Loc) (ls : Array Slot), 6 - j < n_2 → (j ≤ 6) → (∀ k, k < j → ds k = th_lv kv k (key / 2 ^ k ^^^ 1)) → va_P Y.1 vwCl [(dk, .inr (0, [.int (nI 6), .ref sm, .ref y])), (sm, .inl (Y.2 0, 12, .inl ds)), (km, .inr (1, [.ref kva, .ref ksa])), (kva, .inl (Y.2 0, 64, .inl kv)), (ksa, .inl (Y.2 0, 128, .inl ks))] H → va_D (fun z => z ∈ [dk, sm, km, kva, ksa]) [(dk, .inr (0, [.int (nI 6), .ref sm, .ref y])), (sm, .inl (Y.2 0, 12, .inl ds)), (km, .inr (1, [.ref kva, .ref ksa])), (kva, .inl (Y.2 0, 64, .inl kv)), (ksa, .inl (Y.2 0, 128, .inl ks))] → va_S (fun z => z ∈ [dk, sm, km, kva, ksa]) H0 H locs → lv_has ls 4 [(0, .ref dk), (1, .ref km), (2, .int (nI key)), (3, .int (nI j))] → W p l e (th_rm 1 0 0) s m args below meth c H locs 0 0 Q (F0 m 8 ls []) := by
    intro n_2; induction n_2 with
    | zero => intros; exfalso; omega
    | succ n_2 ih =>
      intro j ds H locs ls hmz hj hs hP hD hS hl
      refine lv_iload_n hx hb dX0_takeKeyProof_8 rfl (lv_at hl 3 rfl) ?_
      refine lv_bipush (v := nI 6) hx hb dX0_takeKeyProof_9 (by decide) ?_
      refine th_ige (tgt := 41) hx hb dX0_takeKeyProof_11 (by decide) (by omega) (by omega) (fun c_3 => ?_) (fun c_3 => ?_)
      · skip
        refine th_vret hx hb hr hlk hQ hS dX0_takeKeyProof_41 (Nat.le_of_ble_eq_true rfl) (Nat.le_of_ble_eq_true rfl) ?_
        exact ⟨rfl, ds, hP, fun k hk => hs k (by omega)⟩
      refine lv_iload_n hx hb dX0_takeKeyProof_14 rfl (lv_at hl 3 rfl) ?_
      refine lv_aload_n hx hb dX0_takeKeyProof_15 rfl (lv_at hl 0 rfl) ?_
      refine va_get (D := Y.1) (ci := 0) (v := .ref sm) (C := RX0) (T := TX0) (N := 3) hx hb hts inX0 hown hK hP 0 rfl rfl 1 (by decide) (hts _ tw_1_65) (fun _ h9 => h9) rfl dX0_takeKeyProof_16 ?_
      refine va_alen (v := nI 12) hx hb hK hP 1 0 rfl rfl rfl dX0_takeKeyProof_19 ?_
      refine th_ige (tgt := 41) hx hb dX0_takeKeyProof_20 (by decide) (by omega) (by omega) (fun c_4 => by exfalso; omega) (fun c_4 => ?_)
      refine lv_aload_n hx hb dX0_takeKeyProof_23 rfl (lv_at hl 0 rfl) ?_
      refine va_get (D := Y.1) (ci := 0) (v := .ref sm) (C := RX0) (T := TX0) (N := 3) hx hb hts inX0 hown hK hP 0 rfl rfl 1 (by decide) (hts _ tw_1_65) (fun _ h9 => h9) rfl dX0_takeKeyProof_24 ?_
      refine lv_iload_n hx hb dX0_takeKeyProof_27 rfl (lv_at hl 3 rfl) ?_
      refine lv_aload_n hx hb dX0_takeKeyProof_28 rfl (lv_at hl 1 rfl) ?_
      refine lv_iload_n hx hb dX0_takeKeyProof_29 rfl (lv_at hl 2 rfl) ?_
      refine lv_iload_n hx hb dX0_takeKeyProof_30 rfl (lv_at hl 3 rfl) ?_
      refine th_callV hx hb hml hown hts ⟨hK, hN⟩ hl hS (hP 2 _ rfl) rfl (rest := [.int (nI j), .ref sm]) (c_X1_sumBeside l Y _ km kva ksa kv ks (hP.sub (ws' := [(km, .inr (1, [.ref kva, .ref ksa])), (kva, .inl (Y.2 0, 64, .inl kv)), (ksa, .inl (Y.2 0, 128, .inl ks))]) [2, 3, 4] rfl) hM key j (by omega) (by omega)) ok_X1_sumBeside tw_2_199 dX0_takeKeyProof_31 rfl rfl (Nat.le_of_ble_eq_true rfl) ⟨Nat.le_of_ble_eq_true rfl, Nat.le_of_ble_eq_true rfl⟩ ⟨Nat.le_of_ble_eq_true rfl, Nat.le_of_ble_eq_true rfl⟩ (fun _ h => h.elim) (th_kpi (fun locs hS => ?_))
      refine th_iast hx hb hK hP hD hS 1 rfl (j := j) (by omega) (by omega) dX0_takeKeyProof_34 (fun H locs hP hD hS => ?_)
      have hP : va_P Y.1 vwCl [(dk, .inr (0, [.int (nI 6), .ref sm, .ref y])), (sm, .inl (Y.2 0, 12, .inl (upd ds j (th_lv kv j (key / 2 ^ j ^^^ 1))))), (km, .inr (1, [.ref kva, .ref ksa])), (kva, .inl (Y.2 0, 64, .inl kv)), (ksa, .inl (Y.2 0, 128, .inl ks))] _ := hP
      have hD : va_D _ [(dk, .inr (0, [.int (nI 6), .ref sm, .ref y])), (sm, .inl (Y.2 0, 12, .inl (upd ds j (th_lv kv j (key / 2 ^ j ^^^ 1))))), (km, .inr (1, [.ref kva, .ref ksa])), (kva, .inl (Y.2 0, 64, .inl kv)), (ksa, .inl (Y.2 0, 128, .inl ks))] := hD
      refine lv_iinc (v := nI (j + 1)) (lv' := [(3, .int (nI (j + 1))), (0, .ref dk), (1, .ref km), (2, .int (nI key))]) hx hb dX0_takeKeyProof_35 hl (k := 3) rfl (nI_add _ 1) (by decide) rfl (fun ls hl => ?_)
      refine lv_goto (tgt := 8) hx hb dX0_takeKeyProof_38 (by decide) ?_
      exact ih (j + 1) (upd ds j (th_lv kv j (key / 2 ^ j ^^^ 1))) _ _ _ (by omega) (by omega) (fun k hk => by by_cases z : k = j; (subst z; exact pk_us); (rw [pk_un z]; exact hs k (by omega))) hP hD hS (lv_sub hl [1, 2, 3, 0] rfl)
  exact lp_1 ((6 - (0)) + 1) (0) (ds) _ _ _ (Nat.lt_succ_self _) (by omega) (fun k hk => by omega) hP hD hS (lv_sub hl [1, 2, 3, 0] rfl)

set_option maxRecDepth 100000 in
set_option maxHeartbeats 4000000 in
theorem c_X0_provesKey (l : Launch) (Y : th_Y) (H : Heap) (dk sm y cnt : Nat) (ds : Nat → Int32) (hP : va_P Y.1 vwCl [(dk, .inr (0, [.int (nI cnt), .ref sm, .ref y])), (sm, .inl (Y.2 0, 12, .inl ds))] H) (hc : cnt ≤ 12) (key : Nat) (x0 root : Int32) (hk : key < 64) : th_P l Y yX0_provesKey cX0_provesKey 8 (some .boolean) (th_rm 2 0 0) [.ref dk, .int (nI key), .int x0, .int root] H (fun r9 => r9 = some (.int (th_b (cnt = 6 ∧ th_kf key ds (th_ks x0) 6 = root)))) := by
  refine th_M.intro (by decide) (Nat.le_of_ble_eq_true rfl) ?_
  intro p e s m args below meth c ls Q hQ C hKN hl hS
  obtain ⟨hx, hb, hr, hml, hown, hts, hlk, hnm⟩ := C
  obtain ⟨hK, hN⟩ := hKN
  have hown : s.vm.findClass RX0 = some m.cls := hown
  have hl : lv_has ls 8 [(0, .ref dk), (1, .int (nI key)), (2, .int x0), (3, .int root)] := hl
  refine lv_aload_n hx hb dX0_provesKey_0 rfl (lv_at hl 0 rfl) ?_
  refine va_get (D := Y.1) (ci := 0) (v := .int (nI cnt)) (C := RX0) (T := TX0) (N := 3) hx hb hts inX0 hown hK hP 0 rfl rfl 0 (by decide) (hts _ tw_1_63) (fun _ h9 => h9) rfl dX0_provesKey_1 ?_
  refine lv_bipush (v := nI 6) hx hb dX0_provesKey_4 (by decide) ?_
  refine th_ieq (tgt := 11) hx hb dX0_provesKey_6 (by decide) (by omega) (by omega) (fun c_1 => ?_) (fun c_1 => ?_)
  · skip
    refine lv_iload_n hx hb dX0_provesKey_11 rfl (lv_at hl 2 rfl) ?_
    refine th_callSN hx hb hml hown hts ⟨hK, hN⟩ hl hS (rest := []) (c_X5_keySum l Y _ x0) ok_X5_keySum (tn_3_42 hN) dX0_provesKey_12 rfl rfl (Nat.le_of_ble_eq_true rfl) ⟨Nat.le_of_ble_eq_true rfl, Nat.le_of_ble_eq_true rfl⟩ ⟨Nat.le_of_ble_eq_true rfl, Nat.le_of_ble_eq_true rfl⟩ (fun _ h => h.elim) (th_kpi (fun locs hS => ?_))
    refine lv_istore (lv' := [(4, .int (th_ks x0)), (0, .ref dk), (1, .int (nI key)), (2, .int x0), (3, .int root)]) hx hb dX0_provesKey_15 hl (by decide) rfl (fun ls hl => ?_)
    refine lv_iconst (v := nI 0) hx hb dX0_provesKey_17 (by decide) ?_
    refine lv_istore (lv' := [(5, .int (nI 0)), (4, .int (th_ks x0)), (0, .ref dk), (1, .int (nI key)), (2, .int x0), (3, .int root)]) hx hb dX0_provesKey_18 hl (by decide) rfl (fun ls hl => ?_)
    have lp_2 : ∀ (n_3 : Nat) (j : Nat) (x : Int32) (locs : List Loc) (ls : Array Slot), 6 - j < n_3 → (j ≤ 6) → (x = th_kf key ds (th_ks x0) j) → va_S (th_no) H H locs → lv_has ls 8 [(0, .ref dk), (1, .int (nI key)), (2, .int x0), (3, .int root), (4, .int x), (5, .int (nI j))] → W p l e (th_rm 2 0 0) s m args below meth c H locs 0 0 Q (F0 m 20 ls []) := by
      intro n_3; induction n_3 with
      | zero => intros; exfalso; omega
      | succ n_3 ih =>
        intro j x locs ls hmz hj hx9 hS hl
        have h3 : key / 2 ^ j ≤ key := Nat.div_le_self _ _
        refine lv_iload hx hb dX0_provesKey_20 (lv_at hl 5 rfl) ?_
        refine lv_bipush (v := nI 6) hx hb dX0_provesKey_22 (by decide) ?_
        refine th_ige (tgt := 82) hx hb dX0_provesKey_24 (by decide) (by omega) (by omega) (fun c_4 => ?_) (fun c_4 => ?_)
        · skip
          refine lv_iload hx hb dX0_provesKey_82 (lv_at hl 4 rfl) ?_
          refine lv_iload_n hx hb dX0_provesKey_84 rfl (lv_at hl 3 rfl) ?_
          refine lv_icmp_ne (tgt := 92) hx hb dX0_provesKey_85 (by decide) (fun c_5 => ?_) (fun c_5 => ?_)
          · skip
            refine lv_iconst (v := nI 0) hx hb dX0_provesKey_92 (by decide) ?_
            refine th_zret hx hb hr hlk hQ hS dX0_provesKey_93 (Nat.le_of_ble_eq_true rfl) (Nat.le_of_ble_eq_true rfl) (by first | exact Or.inl rfl | exact Or.inr rfl | assumption) ?_
            obtain rfl : j = 6 := by omega
            exact ⟨by rw [th_bF (fun z => c_5 (hx9.trans z.2))], rfl⟩
          refine lv_iconst (v := nI 1) hx hb dX0_provesKey_88 (by decide) ?_
          refine lv_goto (tgt := 93) hx hb dX0_provesKey_89 (by decide) ?_
          refine th_zret hx hb hr hlk hQ hS dX0_provesKey_93 (Nat.le_of_ble_eq_true rfl) (Nat.le_of_ble_eq_true rfl) (by first | exact Or.inl rfl | exact Or.inr rfl | assumption) ?_
          obtain rfl : j = 6 := by omega
          exact ⟨by rw [th_bT ⟨c_1, hx9.symm.trans c_5⟩], rfl⟩
        refine lv_aload_n hx hb dX0_provesKey_27 rfl (lv_at hl 0 rfl) ?_
        refine lv_iload hx hb dX0_provesKey_28 (lv_at hl 5 rfl) ?_
        refine th_callV hx hb hml hown hts ⟨hK, hN⟩ hl hS (hP 0 _ rfl) rfl (rest := []) (c_X0_read l Y _ dk sm y cnt ds hP j (by omega) (by omega)) ok_X0_read tw_2_229 dX0_provesKey_30 rfl rfl (Nat.le_of_ble_eq_true rfl) ⟨Nat.le_of_ble_eq_true rfl, Nat.le_of_ble_eq_true rfl⟩ ⟨Nat.le_of_ble_eq_true rfl, Nat.le_of_ble_eq_true rfl⟩ (fun _ h => h.elim) (th_kpi (fun locs hS => ?_))
        refine lv_istore (lv' := [(6, .int (ds j)), (0, .ref dk), (1, .int (nI key)), (2, .int x0), (3, .int root), (4, .int x), (5, .int (nI j))]) hx hb dX0_provesKey_33 hl (by decide) rfl (fun ls hl => ?_)
        refine lv_iload_n hx hb dX0_provesKey_35 rfl (lv_at hl 2 rfl) ?_
        refine lv_iload hx hb dX0_provesKey_36 (lv_at hl 6 rfl) ?_
        refine lv_ishr hx hb dX0_provesKey_38 ?_
        refine th_ti (show (nI key) >>> ((nI j) &&& 31) = nI (key / 2 ^ j) from pk_shrN (by omega) _ j (th_s5 j (by omega))) ?_
        refine lv_iconst (v := nI 1) hx hb dX0_provesKey_39 (by decide) ?_
        refine lv_iand hx hb dX0_provesKey_40 ?_
        refine th_ti (show (nI (key / 2 ^ j)) &&& (nI 1) = nI (key / 2 ^ j % 2) from pk_andN (by omega) 1 (by decide)) ?_
        refine lv_iconst (v := nI 1) hx hb dX0_provesKey_41 (by decide) ?_
        refine th_ine (tgt := 49) hx hb dX0_provesKey_42 (by decide) (by omega) (by omega) (fun c_6 => ?_) (fun c_6 => ?_)
        · skip
          refine lv_iconst (v := nI 0) hx hb dX0_provesKey_49 (by decide) ?_
          refine lv_istore (lv' := [(7, .int (nI 0)), (6, .int (ds j)), (0, .ref dk), (1, .int (nI key)), (2, .int x0), (3, .int root), (4, .int x), (5, .int (nI j))]) hx hb dX0_provesKey_50 hl (by decide) rfl (fun ls hl => ?_)
          refine lv_iload hx hb dX0_provesKey_52 (lv_at hl 0 rfl) ?_
          refine th_zeq (tgt := 67) hx hb dX0_provesKey_54 (by decide) (by omega) (fun c_7 => ?_) (fun c_7 => by exfalso; omega)
          refine lv_iload hx hb dX0_provesKey_67 (lv_at hl 6 rfl) ?_
          refine lv_iload hx hb dX0_provesKey_69 (lv_at hl 1 rfl) ?_
          refine th_callSN hx hb hml hown hts ⟨hK, hN⟩ hl hS (rest := []) (c_X5_mapMix l Y _ x (ds j)) ok_X5_mapMix (tn_3_46 hN) dX0_provesKey_71 rfl rfl (Nat.le_of_ble_eq_true rfl) ⟨Nat.le_of_ble_eq_true rfl, Nat.le_of_ble_eq_true rfl⟩ ⟨Nat.le_of_ble_eq_true rfl, Nat.le_of_ble_eq_true rfl⟩ (fun _ h => h.elim) (th_kpi (fun locs hS => ?_))
          refine lv_istore (lv' := [(4, .int (th_jn x (ds j))), (7, .int (nI 0)), (6, .int (ds j)), (0, .ref dk), (1, .int (nI key)), (2, .int x0), (3, .int root), (5, .int (nI j))]) hx hb dX0_provesKey_74 hl (by decide) rfl (fun ls hl => ?_)
          refine lv_iinc (v := nI (j + 1)) (lv' := [(5, .int (nI (j + 1))), (4, .int (th_jn x (ds j))), (7, .int (nI 0)), (6, .int (ds j)), (0, .ref dk), (1, .int (nI key)), (2, .int x0), (3, .int root)]) hx hb dX0_provesKey_76 hl (k := 7) rfl (nI_add _ 1) (by decide) rfl (fun ls hl => ?_)
          refine lv_goto (tgt := 20) hx hb dX0_provesKey_79 (by decide) ?_
          exact ih (j + 1) (th_jn x (ds j)) _ _ (by omega) (by omega) (by subst hx9; exact (if_neg c_6).symm) hS (lv_sub hl [4, 5, 6, 7, 1, 0] rfl)
        refine lv_iconst (v := nI 1) hx hb dX0_provesKey_45 (by decide) ?_
        refine lv_goto (tgt := 50) hx hb dX0_provesKey_46 (by decide) ?_
        refine lv_istore (lv' := [(7, .int (nI 1)), (6, .int (ds j)), (0, .ref dk), (1, .int (nI key)), (2, .int x0), (3, .int root), (4, .int x), (5, .int (nI j))]) hx hb dX0_provesKey_50 hl (by decide) rfl (fun ls hl => ?_)
        refine lv_iload hx hb dX0_provesKey_52 (lv_at hl 0 rfl) ?_
        refine th_zeq (tgt := 67) hx hb dX0_provesKey_54 (by decide) (by omega) (fun c_8 => by exfalso; omega) (fun c_8 => ?_)
        refine lv_iload hx hb dX0_provesKey_57 (lv_at hl 1 rfl) ?_
        refine lv_iload hx hb dX0_provesKey_59 (lv_at hl 6 rfl) ?_
        refine th_callSN hx hb hml hown hts ⟨hK, hN⟩ hl hS (rest := []) (c_X5_mapMix l Y _ (ds j) x) ok_X5_mapMix (tn_3_46 hN) dX0_provesKey_61 rfl rfl (Nat.le_of_ble_eq_true rfl) ⟨Nat.le_of_ble_eq_true rfl, Nat.le_of_ble_eq_true rfl⟩ ⟨Nat.le_of_ble_eq_true rfl, Nat.le_of_ble_eq_true rfl⟩ (fun _ h => h.elim) (th_kpi (fun locs hS => ?_))
        refine lv_goto (tgt := 74) hx hb dX0_provesKey_64 (by decide) ?_
        refine lv_istore (lv' := [(4, .int (th_jn (ds j) x)), (7, .int (nI 1)), (6, .int (ds j)), (0, .ref dk), (1, .int (nI key)), (2, .int x0), (3, .int root), (5, .int (nI j))]) hx hb dX0_provesKey_74 hl (by decide) rfl (fun ls hl => ?_)
        refine lv_iinc (v := nI (j + 1)) (lv' := [(5, .int (nI (j + 1))), (4, .int (th_jn (ds j) x)), (7, .int (nI 1)), (6, .int (ds j)), (0, .ref dk), (1, .int (nI key)), (2, .int x0), (3, .int root)]) hx hb dX0_provesKey_76 hl (k := 7) rfl (nI_add _ 1) (by decide) rfl (fun ls hl => ?_)
        refine lv_goto (tgt := 20) hx hb dX0_provesKey_79 (by decide) ?_
        exact ih (j + 1) (th_jn (ds j) x) _ _ (by omega) (by omega) (by subst hx9; exact (if_pos c_6).symm) hS (lv_sub hl [4, 5, 6, 7, 1, 0] rfl)
    exact lp_2 ((6 - (0)) + 1) (0) (th_ks x0) _ _ (Nat.lt_succ_self _) (by omega) (rfl) hS (lv_sub hl [2, 3, 4, 5, 1, 0] rfl)
  refine lv_iconst (v := nI 0) hx hb dX0_provesKey_9 (by decide) ?_
  refine th_zret hx hb hr hlk hQ hS dX0_provesKey_10 (Nat.le_of_ble_eq_true rfl) (Nat.le_of_ble_eq_true rfl) (by first | exact Or.inl rfl | exact Or.inr rfl | assumption) ?_
  exact ⟨by rw [th_bF (fun z => c_1 z.1)], rfl⟩
end
section
set_option maxRecDepth 100000 in
set_option maxHeartbeats 4000000 in
theorem c_X0_provesLeaf (l : Launch) (Y : th_Y) (H0 : Heap) (dk sm y cnt : Nat) (ds : Nat → Int32) (a1 a2 a3 r F N T : Nat) (fr le fi : Nat → Int32) (hP : va_P Y.1 vwCl [(dk, .inr (0, [.int (nI cnt), .ref sm, .ref y])), (sm, .inl (Y.2 0, 12, .inl ds)), (y, .inr (4, [.int (nI r), .ref a1, .ref a2, .ref a3, .int (nI F), .int (nI N), .int (nI T)])), (a1, .inl (Y.2 0, 12, .inl fr)), (a2, .inl (Y.2 0, 12, .inl le)), (a3, .inl (Y.2 1, 12, .inl fi))] H0) (hD0 : va_D (fun _ => True) [(dk, .inr (0, [.int (nI cnt), .ref sm, .ref y])), (sm, .inl (Y.2 0, 12, .inl ds)), (y, .inr (4, [.int (nI r), .ref a1, .ref a2, .ref a3, .int (nI F), .int (nI N), .int (nI T)])), (a1, .inl (Y.2 0, 12, .inl fr)), (a2, .inl (Y.2 0, 12, .inl le)), (a3, .inl (Y.2 1, 12, .inl fi))]) (hc : cnt ≤ 12) (x0 root : Int32) (t m0 : Nat) (ht : t < m0) (hm0 : m0 ≤ 100) : th_M l Y yX0_provesLeaf cX0_provesLeaf 8 (some .boolean) (th_rm 4 0 0) [.ref dk, .int x0, .int (nI t), .int (nI m0), .int root] H0 (fun z => z ∈ [dk, sm, y, a1, a2, a3]) (fun r' H' => ∃ x' : Int32, r' = some (.int x') ∧ x' = th_b (th_aL (0, m0, t) cnt ds (th_ls x0) root) ∧ ∃ (r1 F1 N1 T1 : Nat) (fr1 le1 fi1 : Nat → Int32), va_P Y.1 vwCl [(dk, .inr (0, [.int (nI cnt), .ref sm, .ref y])), (sm, .inl (Y.2 0, 12, .inl ds)), (y, .inr (4, [.int (nI r1), .ref a1, .ref a2, .ref a3, .int (nI F1), .int (nI N1), .int (nI T1)])), (a1, .inl (Y.2 0, 12, .inl fr1)), (a2, .inl (Y.2 0, 12, .inl le1)), (a3, .inl (Y.2 1, 12, .inl fi1))] H') := by
  refine th_M.intro (by decide) (Nat.le_of_ble_eq_true rfl) ?_
  intro p e s m args below meth c ls Q hQ C hKN hl hS
  obtain ⟨hx, hb, hr, hml, hown, hts, hlk, hnm⟩ := C
  obtain ⟨hK, hN⟩ := hKN
  have hown : s.vm.findClass RX0 = some m.cls := hown
  have hl : lv_has ls 8 [(0, .ref dk), (1, .int x0), (2, .int (nI t)), (3, .int (nI m0)), (4, .int root)] := hl
  have hD : va_D (fun z => z ∈ [dk, sm, y, a1, a2, a3]) [(dk, .inr (0, [.int (nI cnt), .ref sm, .ref y])), (sm, .inl (Y.2 0, 12, .inl ds)), (y, .inr (4, [.int (nI r), .ref a1, .ref a2, .ref a3, .int (nI F), .int (nI N), .int (nI T)])), (a1, .inl (Y.2 0, 12, .inl fr)), (a2, .inl (Y.2 0, 12, .inl le)), (a3, .inl (Y.2 1, 12, .inl fi))] := th_mem hD0
  have hrw := th_rowsL (n := m0) (q := (0, m0, t)) ⟨(by omega : t < m0), (by omega : 0 + m0 ≤ m0), th_al_0 (by omega : m0 ≤ 128)⟩ (by show m0 ≤ 128; omega)
  have hd7 := hrw.1
  refine lv_aload_n hx hb dX0_provesLeaf_0 rfl (lv_at hl 0 rfl) ?_
  refine va_get (D := Y.1) (ci := 0) (v := .ref y) (C := RX0) (T := TX0) (N := 3) hx hb hts inX0 hown hK hP 0 rfl rfl 2 (by decide) (hts _ tw_1_66) (fun _ h9 => h9) rfl dX0_provesLeaf_1 ?_
  refine lv_iload_n hx hb dX0_provesLeaf_4 rfl (lv_at hl 2 rfl) ?_
  refine lv_iload_n hx hb dX0_provesLeaf_5 rfl (lv_at hl 3 rfl) ?_
  refine th_callV hx hb hml hown hts ⟨hK, hN⟩ hl hS (hP 2 _ rfl) rfl (rest := []) (c_X4_leadToLeaf l Y _ y a1 a2 a3 r F N T fr le fi (hP.sub (ws' := [(y, .inr (4, [.int (nI r), .ref a1, .ref a2, .ref a3, .int (nI F), .int (nI N), .int (nI T)])), (a1, .inl (Y.2 0, 12, .inl fr)), (a2, .inl (Y.2 0, 12, .inl le)), (a3, .inl (Y.2 1, 12, .inl fi))]) [2, 3, 4, 5] rfl) ((hD.sub (ws' := [(y, .inr (4, [.int (nI r), .ref a1, .ref a2, .ref a3, .int (nI F), .int (nI N), .int (nI T)])), (a1, .inl (Y.2 0, 12, .inl fr)), (a2, .inl (Y.2 0, 12, .inl le)), (a3, .inl (Y.2 1, 12, .inl fi))]) [2, 3, 4, 5] (by decide) rfl).weaken (fun _ _ _ _ => trivial)) m0 t (by omega) (by omega)) ok_X4_leadToLeaf tw_2_143 dX0_provesLeaf_6 rfl rfl (Nat.le_of_ble_eq_true rfl) ⟨Nat.le_of_ble_eq_true rfl, Nat.le_of_ble_eq_true rfl⟩ ⟨Nat.le_of_ble_eq_true rfl, Nat.le_of_ble_eq_true rfl⟩ (fun z hz => by simp only [List.mem_cons, List.not_mem_nil, or_false] at hz ⊢; omega) (th_kv (fun H locs hp hsm hS => ?_))
  obtain ⟨fr, le, fi, hPc, hw⟩ := hp
  have hP : va_P Y.1 vwCl [(dk, .inr (0, [.int (nI cnt), .ref sm, .ref y])), (sm, .inl (Y.2 0, 12, .inl ds)), (y, .inr (4, [.int (nI (th_dL (0, m0, t))), .ref a1, .ref a2, .ref a3, .int (nI ((th_wa (0, m0, t) (th_dL (0, m0, t))).1)), .int (nI ((th_wa (0, m0, t) (th_dL (0, m0, t))).2.1)), .int (nI ((th_wa (0, m0, t) (th_dL (0, m0, t))).2.2))])), (a1, .inl (Y.2 0, 12, .inl fr)), (a2, .inl (Y.2 0, 12, .inl le)), (a3, .inl (Y.2 1, 12, .inl fi))] _ := (th_join (wr := [(dk, .inr (0, [.int (nI cnt), .ref sm, .ref y])), (sm, .inl (Y.2 0, 12, .inl ds))]) hP hD [0, 1] [2, 3, 4, 5] rfl rfl (by decide) hsm hPc).sub [0, 1, 2, 3, 4, 5] rfl
  have hD : va_D _ [(dk, .inr (0, [.int (nI cnt), .ref sm, .ref y])), (sm, .inl (Y.2 0, 12, .inl ds)), (y, .inr (4, [.int (nI (th_dL (0, m0, t))), .ref a1, .ref a2, .ref a3, .int (nI ((th_wa (0, m0, t) (th_dL (0, m0, t))).1)), .int (nI ((th_wa (0, m0, t) (th_dL (0, m0, t))).2.1)), .int (nI ((th_wa (0, m0, t) (th_dL (0, m0, t))).2.2))])), (a1, .inl (Y.2 0, 12, .inl fr)), (a2, .inl (Y.2 0, 12, .inl le)), (a3, .inl (Y.2 1, 12, .inl fi))] := th_Dsame hD rfl
  refine lv_aload_n hx hb dX0_provesLeaf_9 rfl (lv_at hl 0 rfl) ?_
  refine va_get (D := Y.1) (ci := 0) (v := .int (nI cnt)) (C := RX0) (T := TX0) (N := 3) hx hb hts inX0 hown hK hP 0 rfl rfl 0 (by decide) (hts _ tw_1_63) (fun _ h9 => h9) rfl dX0_provesLeaf_10 ?_
  refine lv_aload_n hx hb dX0_provesLeaf_13 rfl (lv_at hl 0 rfl) ?_
  refine va_get (D := Y.1) (ci := 0) (v := .ref y) (C := RX0) (T := TX0) (N := 3) hx hb hts inX0 hown hK hP 0 rfl rfl 2 (by decide) (hts _ tw_1_66) (fun _ h9 => h9) rfl dX0_provesLeaf_14 ?_
  refine va_getN (D := Y.1) (ci := 4) (v := .int (nI (th_dL (0, m0, t)))) (C := RX4) (T := TX4) (N := 7) hx hb hts inX4 hown hK hP 2 rfl rfl 0 (by decide) (va_Nw.use rfl (tn_1_38 hN)) (fun _ h9 => h9) rfl dX0_provesLeaf_17 ?_
  refine th_ieq (tgt := 25) hx hb dX0_provesLeaf_20 (by decide) (by omega) (by omega) (fun c_1 => ?_) (fun c_1 => ?_)
  · skip
    refine lv_iload_n hx hb dX0_provesLeaf_25 rfl (lv_at hl 1 rfl) ?_
    refine th_callSN hx hb hml hown hts ⟨hK, hN⟩ hl hS (rest := []) (c_X5_leafSum l Y _ x0) ok_X5_leafSum (tn_3_13 hN) dX0_provesLeaf_26 rfl rfl (Nat.le_of_ble_eq_true rfl) ⟨Nat.le_of_ble_eq_true rfl, Nat.le_of_ble_eq_true rfl⟩ ⟨Nat.le_of_ble_eq_true rfl, Nat.le_of_ble_eq_true rfl⟩ (fun _ h => h.elim) (th_kpi (fun locs hS => ?_))
    refine lv_istore (lv' := [(5, .int (th_ls x0)), (0, .ref dk), (1, .int x0), (2, .int (nI t)), (3, .int (nI m0)), (4, .int root)]) hx hb dX0_provesLeaf_29 hl (by decide) rfl (fun ls hl => ?_)
    refine lv_iconst (v := nI 0) hx hb dX0_provesLeaf_31 (by decide) ?_
    refine lv_istore (lv' := [(6, .int (nI 0)), (5, .int (th_ls x0)), (0, .ref dk), (1, .int x0), (2, .int (nI t)), (3, .int (nI m0)), (4, .int root)]) hx hb dX0_provesLeaf_32 hl (by decide) rfl (fun ls hl => ?_)
    have lp_2 : ∀ (n_3 : Nat) (j : Nat) (x : Int32) (locs : List Loc) (ls : Array Slot), cnt - j < n_3 → (0 + j ≤ cnt) → (x = th_fd (th_dL (0, m0, t)) (th_F (0, m0, t)) ds 0 (th_ls x0) j) → va_S (fun z => z ∈ [dk, sm, y, a1, a2, a3]) H0 H locs → lv_has ls 8 [(0, .ref dk), (1, .int x0), (2, .int (nI t)), (3, .int (nI m0)), (4, .int root), (5, .int x), (6, .int (nI (0 + j)))] → W p l e (th_rm 4 0 0) s m args below meth c H locs 0 0 Q (F0 m 34 ls []) := by
      intro n_3; induction n_3 with
      | zero => intros; exfalso; omega
      | succ n_3 ih =>
        intro j x locs ls hmz hj hx9 hS hl
        refine lv_iload hx hb dX0_provesLeaf_34 (lv_at hl 6 rfl) ?_
        refine lv_aload_n hx hb dX0_provesLeaf_36 rfl (lv_at hl 0 rfl) ?_
        refine va_get (D := Y.1) (ci := 0) (v := .int (nI cnt)) (C := RX0) (T := TX0) (N := 3) hx hb hts inX0 hown hK hP 0 rfl rfl 0 (by decide) (hts _ tw_1_63) (fun _ h9 => h9) rfl dX0_provesLeaf_37 ?_
        refine th_ige (tgt := 88) hx hb dX0_provesLeaf_40 (by decide) (by omega) (by omega) (fun c_4 => ?_) (fun c_4 => ?_)
        · skip
          refine lv_iload hx hb dX0_provesLeaf_88 (lv_at hl 5 rfl) ?_
          refine lv_iload hx hb dX0_provesLeaf_90 (lv_at hl 4 rfl) ?_
          refine lv_icmp_ne (tgt := 99) hx hb dX0_provesLeaf_92 (by decide) (fun c_5 => ?_) (fun c_5 => ?_)
          · skip
            refine lv_iconst (v := nI 0) hx hb dX0_provesLeaf_99 (by decide) ?_
            refine th_zret hx hb hr hlk hQ hS dX0_provesLeaf_100 (Nat.le_of_ble_eq_true rfl) (Nat.le_of_ble_eq_true rfl) (by first | exact Or.inl rfl | exact Or.inr rfl | assumption) ?_
            have zj : j = (th_dL (0, m0, t)) := by omega
            rw [zj] at hx9
            exact ⟨_, rfl, by rw [th_bF (fun z => c_5 (hx9.trans z.2))], ⟨_, _, _, _, fr, le, fi, hP⟩⟩
          refine lv_iconst (v := nI 1) hx hb dX0_provesLeaf_95 (by decide) ?_
          refine lv_goto (tgt := 100) hx hb dX0_provesLeaf_96 (by decide) ?_
          refine th_zret hx hb hr hlk hQ hS dX0_provesLeaf_100 (Nat.le_of_ble_eq_true rfl) (Nat.le_of_ble_eq_true rfl) (by first | exact Or.inl rfl | exact Or.inr rfl | assumption) ?_
          have zj : j = (th_dL (0, m0, t)) := by omega
          rw [zj] at hx9
          exact ⟨_, rfl, by rw [th_bT ⟨c_1, hx9.symm.trans c_5⟩], ⟨_, _, _, _, fr, le, fi, hP⟩⟩
        refine lv_aload_n hx hb dX0_provesLeaf_43 rfl (lv_at hl 0 rfl) ?_
        refine lv_iload hx hb dX0_provesLeaf_44 (lv_at hl 6 rfl) ?_
        refine th_callV hx hb hml hown hts ⟨hK, hN⟩ hl hS (hP 0 _ rfl) rfl (rest := []) (c_X0_read l Y _ dk sm y cnt ds (hP.sub (ws' := [(dk, .inr (0, [.int (nI cnt), .ref sm, .ref y])), (sm, .inl (Y.2 0, 12, .inl ds))]) [0, 1] rfl) (0 + j) (by omega) (by omega)) ok_X0_read tw_2_229 dX0_provesLeaf_46 rfl rfl (Nat.le_of_ble_eq_true rfl) ⟨Nat.le_of_ble_eq_true rfl, Nat.le_of_ble_eq_true rfl⟩ ⟨Nat.le_of_ble_eq_true rfl, Nat.le_of_ble_eq_true rfl⟩ (fun _ h => h.elim) (th_kpi (fun locs hS => ?_))
        refine lv_istore (lv' := [(7, .int (ds (0 + j))), (0, .ref dk), (1, .int x0), (2, .int (nI t)), (3, .int (nI m0)), (4, .int root), (5, .int x), (6, .int (nI (0 + j)))]) hx hb dX0_provesLeaf_49 hl (by decide) rfl (fun ls hl => ?_)
        refine lv_aload_n hx hb dX0_provesLeaf_51 rfl (lv_at hl 1 rfl) ?_
        refine va_get (D := Y.1) (ci := 0) (v := .ref y) (C := RX0) (T := TX0) (N := 3) hx hb hts inX0 hown hK hP 0 rfl rfl 2 (by decide) (hts _ tw_1_66) (fun _ h9 => h9) rfl dX0_provesLeaf_52 ?_
        refine lv_iload hx hb dX0_provesLeaf_55 (lv_at hl 7 rfl) ?_
        refine th_callV hx hb hml hown hts ⟨hK, hN⟩ hl hS (hP 2 _ rfl) rfl (rest := []) (c_X4_isFirstAt l Y _ y a1 a2 a3 (th_dL (0, m0, t)) ((th_wa (0, m0, t) (th_dL (0, m0, t))).1) ((th_wa (0, m0, t) (th_dL (0, m0, t))).2.1) ((th_wa (0, m0, t) (th_dL (0, m0, t))).2.2) fr le fi (hP.sub (ws' := [(y, .inr (4, [.int (nI (th_dL (0, m0, t))), .ref a1, .ref a2, .ref a3, .int (nI ((th_wa (0, m0, t) (th_dL (0, m0, t))).1)), .int (nI ((th_wa (0, m0, t) (th_dL (0, m0, t))).2.1)), .int (nI ((th_wa (0, m0, t) (th_dL (0, m0, t))).2.2))])), (a1, .inl (Y.2 0, 12, .inl fr)), (a2, .inl (Y.2 0, 12, .inl le)), (a3, .inl (Y.2 1, 12, .inl fi))]) [2, 3, 4, 5] rfl) (0 + j) (by omega) (by omega) (by rw [(hw _ (by omega)).2.2]; exact th_F01 (0, m0, t) _)) ok_X4_isFirstAt tw_3_14 dX0_provesLeaf_57 rfl rfl (Nat.le_of_ble_eq_true rfl) ⟨Nat.le_of_ble_eq_true rfl, Nat.le_of_ble_eq_true rfl⟩ ⟨Nat.le_of_ble_eq_true rfl, Nat.le_of_ble_eq_true rfl⟩ (fun _ h => h.elim) (th_kpi (fun locs hS => ?_))
        refine th_ti (show _ = th_F (0, m0, t) ((th_dL (0, m0, t)) - 1 - (0 + j)) from (hw _ (by omega)).2.2) ?_
        refine lv_if_eq (tgt := 73) hx hb dX0_provesLeaf_60 (by decide) (fun c_6 => ?_) (fun c_6 => ?_)
        · skip
          refine lv_iload hx hb dX0_provesLeaf_73 (lv_at hl 6 rfl) ?_
          refine lv_iload hx hb dX0_provesLeaf_75 (lv_at hl 0 rfl) ?_
          refine th_callSN hx hb hml hown hts ⟨hK, hN⟩ hl hS (rest := []) (c_X5_mix l Y _ x (ds (0 + j))) ok_X5_mix (tn_3_18 hN) dX0_provesLeaf_77 rfl rfl (Nat.le_of_ble_eq_true rfl) ⟨Nat.le_of_ble_eq_true rfl, Nat.le_of_ble_eq_true rfl⟩ ⟨Nat.le_of_ble_eq_true rfl, Nat.le_of_ble_eq_true rfl⟩ (fun _ h => h.elim) (th_kpi (fun locs hS => ?_))
          refine lv_istore (lv' := [(5, .int (th_mx x (ds (0 + j)))), (7, .int (ds (0 + j))), (0, .ref dk), (1, .int x0), (2, .int (nI t)), (3, .int (nI m0)), (4, .int root), (6, .int (nI (0 + j)))]) hx hb dX0_provesLeaf_80 hl (by decide) rfl (fun ls hl => ?_)
          refine lv_iinc (v := nI (0 + (j + 1))) (lv' := [(6, .int (nI (0 + (j + 1)))), (5, .int (th_mx x (ds (0 + j)))), (7, .int (ds (0 + j))), (0, .ref dk), (1, .int x0), (2, .int (nI t)), (3, .int (nI m0)), (4, .int root)]) hx hb dX0_provesLeaf_82 hl (k := 7) rfl ((nI_add _ 1).trans (congrArg nI (by omega))) (by decide) rfl (fun ls hl => ?_)
          refine lv_goto (tgt := 34) hx hb dX0_provesLeaf_85 (by decide) ?_
          exact ih (j + 1) (th_mx x (ds (0 + j))) _ _ (by omega) (by omega) ((th_fd_s hx9).1 c_6) hS (lv_sub hl [3, 4, 5, 6, 7, 1, 0] rfl)
        refine lv_iload hx hb dX0_provesLeaf_63 (lv_at hl 0 rfl) ?_
        refine lv_iload hx hb dX0_provesLeaf_65 (lv_at hl 6 rfl) ?_
        refine th_callSN hx hb hml hown hts ⟨hK, hN⟩ hl hS (rest := []) (c_X5_mix l Y _ (ds (0 + j)) x) ok_X5_mix (tn_3_18 hN) dX0_provesLeaf_67 rfl rfl (Nat.le_of_ble_eq_true rfl) ⟨Nat.le_of_ble_eq_true rfl, Nat.le_of_ble_eq_true rfl⟩ ⟨Nat.le_of_ble_eq_true rfl, Nat.le_of_ble_eq_true rfl⟩ (fun _ h => h.elim) (th_kpi (fun locs hS => ?_))
        refine lv_goto (tgt := 80) hx hb dX0_provesLeaf_70 (by decide) ?_
        refine lv_istore (lv' := [(5, .int (th_mx (ds (0 + j)) x)), (7, .int (ds (0 + j))), (0, .ref dk), (1, .int x0), (2, .int (nI t)), (3, .int (nI m0)), (4, .int root), (6, .int (nI (0 + j)))]) hx hb dX0_provesLeaf_80 hl (by decide) rfl (fun ls hl => ?_)
        refine lv_iinc (v := nI (0 + (j + 1))) (lv' := [(6, .int (nI (0 + (j + 1)))), (5, .int (th_mx (ds (0 + j)) x)), (7, .int (ds (0 + j))), (0, .ref dk), (1, .int x0), (2, .int (nI t)), (3, .int (nI m0)), (4, .int root)]) hx hb dX0_provesLeaf_82 hl (k := 7) rfl ((nI_add _ 1).trans (congrArg nI (by omega))) (by decide) rfl (fun ls hl => ?_)
        refine lv_goto (tgt := 34) hx hb dX0_provesLeaf_85 (by decide) ?_
        exact ih (j + 1) (th_mx (ds (0 + j)) x) _ _ (by omega) (by omega) ((th_fd_s hx9).2 c_6) hS (lv_sub hl [3, 4, 5, 6, 7, 1, 0] rfl)
    exact lp_2 ((cnt - (0)) + 1) (0) (th_ls x0) _ _ (Nat.lt_succ_self _) (by omega) (rfl) hS (lv_sub hl [2, 3, 4, 5, 6, 1, 0] rfl)
  refine lv_iconst (v := nI 0) hx hb dX0_provesLeaf_23 (by decide) ?_
  refine th_zret hx hb hr hlk hQ hS dX0_provesLeaf_24 (Nat.le_of_ble_eq_true rfl) (Nat.le_of_ble_eq_true rfl) (by first | exact Or.inl rfl | exact Or.inr rfl | assumption) ?_
  exact ⟨_, rfl, by rw [th_bF (fun z => c_1 z.1)], ⟨_, _, _, _, fr, le, fi, hP⟩⟩

set_option maxRecDepth 100000 in
set_option maxHeartbeats 4000000 in
theorem c_X0_provesGrowth (l : Launch) (Y : th_Y) (H0 : Heap) (dk sm y cnt : Nat) (ds : Nat → Int32) (a1 a2 a3 r F N T : Nat) (fr le fi : Nat → Int32) (hP : va_P Y.1 vwCl [(dk, .inr (0, [.int (nI cnt), .ref sm, .ref y])), (sm, .inl (Y.2 0, 12, .inl ds)), (y, .inr (4, [.int (nI r), .ref a1, .ref a2, .ref a3, .int (nI F), .int (nI N), .int (nI T)])), (a1, .inl (Y.2 0, 12, .inl fr)), (a2, .inl (Y.2 0, 12, .inl le)), (a3, .inl (Y.2 1, 12, .inl fi))] H0) (hD0 : va_D (fun _ => True) [(dk, .inr (0, [.int (nI cnt), .ref sm, .ref y])), (sm, .inl (Y.2 0, 12, .inl ds)), (y, .inr (4, [.int (nI r), .ref a1, .ref a2, .ref a3, .int (nI F), .int (nI N), .int (nI T)])), (a1, .inl (Y.2 0, 12, .inl fr)), (a2, .inl (Y.2 0, 12, .inl le)), (a3, .inl (Y.2 1, 12, .inl fi))]) (hc : cnt ≤ 12) (old root : Int32) (k0 m0 : Nat) (hk1 : 1 ≤ k0) (hk0 : k0 ≤ m0) (hm0 : m0 ≤ 100) : th_M l Y yX0_provesGrowth cX0_provesGrowth 11 (some .boolean) (th_rm 4 0 0) [.ref dk, .int (nI k0), .int old, .int (nI m0), .int root] H0 (fun z => z ∈ [dk, sm, y, a1, a2, a3]) (fun r' H' => ∃ x' : Int32, r' = some (.int x') ∧ x' = th_b (th_aG (0, m0, k0 - 1) cnt ds old root) ∧ ∃ (r1 F1 N1 T1 : Nat) (fr1 le1 fi1 : Nat → Int32), va_P Y.1 vwCl [(dk, .inr (0, [.int (nI cnt), .ref sm, .ref y])), (sm, .inl (Y.2 0, 12, .inl ds)), (y, .inr (4, [.int (nI r1), .ref a1, .ref a2, .ref a3, .int (nI F1), .int (nI N1), .int (nI T1)])), (a1, .inl (Y.2 0, 12, .inl fr1)), (a2, .inl (Y.2 0, 12, .inl le1)), (a3, .inl (Y.2 1, 12, .inl fi1))] H') := by
  refine th_M.intro (by decide) (Nat.le_of_ble_eq_true rfl) ?_
  intro p e s m args below meth c ls Q hQ C hKN hl hS
  obtain ⟨hx, hb, hr, hml, hown, hts, hlk, hnm⟩ := C
  obtain ⟨hK, hN⟩ := hKN
  have hown : s.vm.findClass RX0 = some m.cls := hown
  have hl : lv_has ls 11 [(0, .ref dk), (1, .int (nI k0)), (2, .int old), (3, .int (nI m0)), (4, .int root)] := hl
  have hD : va_D (fun z => z ∈ [dk, sm, y, a1, a2, a3]) [(dk, .inr (0, [.int (nI cnt), .ref sm, .ref y])), (sm, .inl (Y.2 0, 12, .inl ds)), (y, .inr (4, [.int (nI r), .ref a1, .ref a2, .ref a3, .int (nI F), .int (nI N), .int (nI T)])), (a1, .inl (Y.2 0, 12, .inl fr)), (a2, .inl (Y.2 0, 12, .inl le)), (a3, .inl (Y.2 1, 12, .inl fi))] := th_mem hD0
  have hrw := th_rowsG (n := m0) (q := (0, m0, k0 - 1)) ⟨(by omega : k0 - 1 < m0), (by omega : 0 + m0 ≤ m0), th_al_0 (by omega : m0 ≤ 128)⟩ (by show m0 ≤ 128; omega)
  have hd7 := hrw.1
  have zR : th_gR (0, m0, k0 - 1) = 0 → (th_wa (0, m0, k0 - 1) (th_dG (0, m0, k0 - 1))).1 = 0 := fun z => by unfold th_gR at z; split at z; assumption; omega
  refine lv_aload_n hx hb dX0_provesGrowth_0 rfl (lv_at hl 0 rfl) ?_
  refine va_get (D := Y.1) (ci := 0) (v := .ref y) (C := RX0) (T := TX0) (N := 3) hx hb hts inX0 hown hK hP 0 rfl rfl 2 (by decide) (hts _ tw_1_66) (fun _ h9 => h9) rfl dX0_provesGrowth_1 ?_
  refine lv_iload_n hx hb dX0_provesGrowth_4 rfl (lv_at hl 1 rfl) ?_
  refine lv_iload_n hx hb dX0_provesGrowth_5 rfl (lv_at hl 3 rfl) ?_
  refine th_callV hx hb hml hown hts ⟨hK, hN⟩ hl hS (hP 2 _ rfl) rfl (rest := []) (c_X4_leadToGrowth l Y _ y a1 a2 a3 r F N T fr le fi (hP.sub (ws' := [(y, .inr (4, [.int (nI r), .ref a1, .ref a2, .ref a3, .int (nI F), .int (nI N), .int (nI T)])), (a1, .inl (Y.2 0, 12, .inl fr)), (a2, .inl (Y.2 0, 12, .inl le)), (a3, .inl (Y.2 1, 12, .inl fi))]) [2, 3, 4, 5] rfl) ((hD.sub (ws' := [(y, .inr (4, [.int (nI r), .ref a1, .ref a2, .ref a3, .int (nI F), .int (nI N), .int (nI T)])), (a1, .inl (Y.2 0, 12, .inl fr)), (a2, .inl (Y.2 0, 12, .inl le)), (a3, .inl (Y.2 1, 12, .inl fi))]) [2, 3, 4, 5] (by decide) rfl).weaken (fun _ _ _ _ => trivial)) m0 k0 (by omega) (by omega) (by omega)) ok_X4_leadToGrowth tw_2_180 dX0_provesGrowth_6 rfl rfl (Nat.le_of_ble_eq_true rfl) ⟨Nat.le_of_ble_eq_true rfl, Nat.le_of_ble_eq_true rfl⟩ ⟨Nat.le_of_ble_eq_true rfl, Nat.le_of_ble_eq_true rfl⟩ (fun z hz => by simp only [List.mem_cons, List.not_mem_nil, or_false] at hz ⊢; omega) (th_kv (fun H locs hp hsm hS => ?_))
  obtain ⟨fr, le, fi, hPc, hw⟩ := hp
  have hP : va_P Y.1 vwCl [(dk, .inr (0, [.int (nI cnt), .ref sm, .ref y])), (sm, .inl (Y.2 0, 12, .inl ds)), (y, .inr (4, [.int (nI (th_gR (0, m0, k0 - 1))), .ref a1, .ref a2, .ref a3, .int (nI ((th_wa (0, m0, k0 - 1) (th_dG (0, m0, k0 - 1))).1)), .int (nI ((th_wa (0, m0, k0 - 1) (th_dG (0, m0, k0 - 1))).2.1)), .int (nI ((th_wa (0, m0, k0 - 1) (th_dG (0, m0, k0 - 1))).2.2))])), (a1, .inl (Y.2 0, 12, .inl fr)), (a2, .inl (Y.2 0, 12, .inl le)), (a3, .inl (Y.2 1, 12, .inl fi))] _ := (th_join (wr := [(dk, .inr (0, [.int (nI cnt), .ref sm, .ref y])), (sm, .inl (Y.2 0, 12, .inl ds))]) hP hD [0, 1] [2, 3, 4, 5] rfl rfl (by decide) hsm hPc).sub [0, 1, 2, 3, 4, 5] rfl
  have hD : va_D _ [(dk, .inr (0, [.int (nI cnt), .ref sm, .ref y])), (sm, .inl (Y.2 0, 12, .inl ds)), (y, .inr (4, [.int (nI (th_gR (0, m0, k0 - 1))), .ref a1, .ref a2, .ref a3, .int (nI ((th_wa (0, m0, k0 - 1) (th_dG (0, m0, k0 - 1))).1)), .int (nI ((th_wa (0, m0, k0 - 1) (th_dG (0, m0, k0 - 1))).2.1)), .int (nI ((th_wa (0, m0, k0 - 1) (th_dG (0, m0, k0 - 1))).2.2))])), (a1, .inl (Y.2 0, 12, .inl fr)), (a2, .inl (Y.2 0, 12, .inl le)), (a3, .inl (Y.2 1, 12, .inl fi))] := th_Dsame hD rfl
  refine lv_aload_n hx hb dX0_provesGrowth_9 rfl (lv_at hl 0 rfl) ?_
  refine va_get (D := Y.1) (ci := 0) (v := .int (nI cnt)) (C := RX0) (T := TX0) (N := 3) hx hb hts inX0 hown hK hP 0 rfl rfl 0 (by decide) (hts _ tw_1_63) (fun _ h9 => h9) rfl dX0_provesGrowth_10 ?_
  refine lv_aload_n hx hb dX0_provesGrowth_13 rfl (lv_at hl 0 rfl) ?_
  refine va_get (D := Y.1) (ci := 0) (v := .ref y) (C := RX0) (T := TX0) (N := 3) hx hb hts inX0 hown hK hP 0 rfl rfl 2 (by decide) (hts _ tw_1_66) (fun _ h9 => h9) rfl dX0_provesGrowth_14 ?_
  refine va_getN (D := Y.1) (ci := 4) (v := .int (nI (th_gR (0, m0, k0 - 1)))) (C := RX4) (T := TX4) (N := 7) hx hb hts inX4 hown hK hP 2 rfl rfl 0 (by decide) (va_Nw.use rfl (tn_1_38 hN)) (fun _ h9 => h9) rfl dX0_provesGrowth_17 ?_
  refine th_ieq (tgt := 25) hx hb dX0_provesGrowth_20 (by decide) (by omega) (by omega) (fun c_1 => ?_) (fun c_1 => ?_)
  · skip
    refine lv_aload_n hx hb dX0_provesGrowth_25 rfl (lv_at hl 0 rfl) ?_
    refine va_get (D := Y.1) (ci := 0) (v := .ref y) (C := RX0) (T := TX0) (N := 3) hx hb hts inX0 hown hK hP 0 rfl rfl 2 (by decide) (hts _ tw_1_66) (fun _ h9 => h9) rfl dX0_provesGrowth_26 ?_
    refine th_callV hx hb hml hown hts ⟨hK, hN⟩ hl hS (hP 2 _ rfl) rfl (rest := []) (c_X4_endsInTrust l Y _ y a1 a2 a3 (th_gR (0, m0, k0 - 1)) ((th_wa (0, m0, k0 - 1) (th_dG (0, m0, k0 - 1))).1) ((th_wa (0, m0, k0 - 1) (th_dG (0, m0, k0 - 1))).2.1) ((th_wa (0, m0, k0 - 1) (th_dG (0, m0, k0 - 1))).2.2) fr le fi (hP.sub (ws' := [(y, .inr (4, [.int (nI (th_gR (0, m0, k0 - 1))), .ref a1, .ref a2, .ref a3, .int (nI ((th_wa (0, m0, k0 - 1) (th_dG (0, m0, k0 - 1))).1)), .int (nI ((th_wa (0, m0, k0 - 1) (th_dG (0, m0, k0 - 1))).2.1)), .int (nI ((th_wa (0, m0, k0 - 1) (th_dG (0, m0, k0 - 1))).2.2))])), (a1, .inl (Y.2 0, 12, .inl fr)), (a2, .inl (Y.2 0, 12, .inl le)), (a3, .inl (Y.2 1, 12, .inl fi))]) [2, 3, 4, 5] rfl) (by have zF := hrw.2.1; have zG := th_gwF (n := m0) (q := (0, m0, k0 - 1)) ⟨(by omega : k0 - 1 < m0), (by omega : 0 + m0 ≤ m0), th_al_0 (by omega : m0 ≤ 128)⟩ (by show m0 ≤ 128; omega); omega)) ok_X4_endsInTrust tw_3_30 dX0_provesGrowth_29 rfl rfl (Nat.le_of_ble_eq_true rfl) ⟨Nat.le_of_ble_eq_true rfl, Nat.le_of_ble_eq_true rfl⟩ ⟨Nat.le_of_ble_eq_true rfl, Nat.le_of_ble_eq_true rfl⟩ (fun _ h => h.elim) (th_kpi (fun locs hS => ?_))
    by_cases cF : (th_wa (0, m0, k0 - 1) (th_dG (0, m0, k0 - 1))).1 = 0
    · rw [if_pos cF]
      refine lv_istore (lv' := [(5, .int (nI 1)), (0, .ref dk), (1, .int (nI k0)), (2, .int old), (3, .int (nI m0)), (4, .int root)]) hx hb dX0_provesGrowth_32 hl (by decide) rfl (fun ls hl => ?_)
      refine lv_iload hx hb dX0_provesGrowth_34 (lv_at hl 0 rfl) ?_
      refine th_zeq (tgt := 43) hx hb dX0_provesGrowth_36 (by decide) (by omega) (fun c_2 => by exfalso; omega) (fun c_2 => ?_)
      refine lv_iload_n hx hb dX0_provesGrowth_39 rfl (lv_at hl 3 rfl) ?_
      refine lv_goto (tgt := 48) hx hb dX0_provesGrowth_40 (by decide) ?_
      refine lv_istore (lv' := [(6, .int old), (5, .int (nI 1)), (0, .ref dk), (1, .int (nI k0)), (2, .int old), (3, .int (nI m0)), (4, .int root)]) hx hb dX0_provesGrowth_48 hl (by decide) rfl (fun ls hl => ?_)
      refine lv_iload hx hb dX0_provesGrowth_50 (lv_at hl 0 rfl) ?_
      refine lv_istore (lv' := [(7, .int old), (6, .int old), (5, .int (nI 1)), (0, .ref dk), (1, .int (nI k0)), (2, .int old), (3, .int (nI m0)), (4, .int root)]) hx hb dX0_provesGrowth_52 hl (by decide) rfl (fun ls hl => ?_)
      refine lv_iload hx hb dX0_provesGrowth_54 (lv_at hl 2 rfl) ?_
      refine th_zeq (tgt := 63) hx hb dX0_provesGrowth_56 (by decide) (by omega) (fun c_3 => by exfalso; omega) (fun c_3 => ?_)
      refine lv_iconst (v := nI 0) hx hb dX0_provesGrowth_59 (by decide) ?_
      refine lv_goto (tgt := 64) hx hb dX0_provesGrowth_60 (by decide) ?_
      refine lv_istore (lv' := [(8, .int (nI 0)), (7, .int old), (6, .int old), (5, .int (nI 1)), (0, .ref dk), (1, .int (nI k0)), (2, .int old), (3, .int (nI m0)), (4, .int root)]) hx hb dX0_provesGrowth_64 hl (by decide) rfl (fun ls hl => ?_)
      have lp_4 : ∀ (n_5 : Nat) (j : Nat) (xo : Int32) (x : Int32) (locs : List Loc) (ls : Array Slot), cnt - j < n_5 → (0 + j ≤ cnt) → (xo = th_fo (th_gR (0, m0, k0 - 1)) (th_gF (0, m0, k0 - 1)) ds 0 (old) j) → (x = th_fd (th_gR (0, m0, k0 - 1)) (th_gF (0, m0, k0 - 1)) ds 0 (old) j) → va_S (fun z => z ∈ [dk, sm, y, a1, a2, a3]) H0 H locs → lv_has ls 11 [(0, .ref dk), (1, .int (nI k0)), (2, .int old), (3, .int (nI m0)), (4, .int root), (5, .int (nI 1)), (6, .int xo), (7, .int x), (8, .int (nI (0 + j)))] → W p l e (th_rm 4 0 0) s m args below meth c H locs 0 0 Q (F0 m 66 ls []) := by
        intro n_5; induction n_5 with
        | zero => intros; exfalso; omega
        | succ n_5 ih =>
          intro j xo x locs ls hmz hj ho9 hx9 hS hl
          refine lv_iload hx hb dX0_provesGrowth_66 (lv_at hl 8 rfl) ?_
          refine lv_aload_n hx hb dX0_provesGrowth_68 rfl (lv_at hl 0 rfl) ?_
          refine va_get (D := Y.1) (ci := 0) (v := .int (nI cnt)) (C := RX0) (T := TX0) (N := 3) hx hb hts inX0 hown hK hP 0 rfl rfl 0 (by decide) (hts _ tw_1_63) (fun _ h9 => h9) rfl dX0_provesGrowth_69 ?_
          refine th_ige (tgt := 143) hx hb dX0_provesGrowth_72 (by decide) (by omega) (by omega) (fun c_6 => ?_) (fun c_6 => ?_)
          · skip
            refine lv_iload hx hb dX0_provesGrowth_143 (lv_at hl 6 rfl) ?_
            refine lv_iload_n hx hb dX0_provesGrowth_145 rfl (lv_at hl 2 rfl) ?_
            refine lv_icmp_ne (tgt := 160) hx hb dX0_provesGrowth_146 (by decide) (fun c_7 => ?_) (fun c_7 => ?_)
            · skip
              refine lv_iconst (v := nI 0) hx hb dX0_provesGrowth_160 (by decide) ?_
              refine th_zret hx hb hr hlk hQ hS dX0_provesGrowth_161 (Nat.le_of_ble_eq_true rfl) (Nat.le_of_ble_eq_true rfl) (by first | exact Or.inl rfl | exact Or.inr rfl | assumption) ?_
              have zj : j = (th_gR (0, m0, k0 - 1)) := by omega
              rw [zj] at hx9 ho9
              exact ⟨_, rfl, by rw [th_bF (fun z => c_7 (ho9.trans (z.2.1 cF).1))], ⟨_, _, _, _, fr, le, fi, hP⟩⟩
            refine lv_iload hx hb dX0_provesGrowth_149 (lv_at hl 7 rfl) ?_
            refine lv_iload hx hb dX0_provesGrowth_151 (lv_at hl 4 rfl) ?_
            refine lv_icmp_ne (tgt := 160) hx hb dX0_provesGrowth_153 (by decide) (fun c_8 => ?_) (fun c_8 => ?_)
            · skip
              refine lv_iconst (v := nI 0) hx hb dX0_provesGrowth_160 (by decide) ?_
              refine th_zret hx hb hr hlk hQ hS dX0_provesGrowth_161 (Nat.le_of_ble_eq_true rfl) (Nat.le_of_ble_eq_true rfl) (by first | exact Or.inl rfl | exact Or.inr rfl | assumption) ?_
              have zj : j = (th_gR (0, m0, k0 - 1)) := by omega
              rw [zj] at hx9 ho9
              exact ⟨_, rfl, by rw [th_bF (fun z => c_8 (hx9.trans (z.2.1 cF).2))], ⟨_, _, _, _, fr, le, fi, hP⟩⟩
            refine lv_iconst (v := nI 1) hx hb dX0_provesGrowth_156 (by decide) ?_
            refine lv_goto (tgt := 161) hx hb dX0_provesGrowth_157 (by decide) ?_
            refine th_zret hx hb hr hlk hQ hS dX0_provesGrowth_161 (Nat.le_of_ble_eq_true rfl) (Nat.le_of_ble_eq_true rfl) (by first | exact Or.inl rfl | exact Or.inr rfl | assumption) ?_
            have zj : j = (th_gR (0, m0, k0 - 1)) := by omega
            rw [zj] at hx9 ho9
            exact ⟨_, rfl, by rw [th_bT ⟨c_1, fun _ => ⟨ho9.symm.trans c_7, hx9.symm.trans c_8⟩, fun z => absurd cF z⟩], ⟨_, _, _, _, fr, le, fi, hP⟩⟩
          refine lv_aload_n hx hb dX0_provesGrowth_75 rfl (lv_at hl 0 rfl) ?_
          refine lv_iload hx hb dX0_provesGrowth_76 (lv_at hl 8 rfl) ?_
          refine th_callV hx hb hml hown hts ⟨hK, hN⟩ hl hS (hP 0 _ rfl) rfl (rest := []) (c_X0_read l Y _ dk sm y cnt ds (hP.sub (ws' := [(dk, .inr (0, [.int (nI cnt), .ref sm, .ref y])), (sm, .inl (Y.2 0, 12, .inl ds))]) [0, 1] rfl) (0 + j) (by omega) (by omega)) ok_X0_read tw_2_229 dX0_provesGrowth_78 rfl rfl (Nat.le_of_ble_eq_true rfl) ⟨Nat.le_of_ble_eq_true rfl, Nat.le_of_ble_eq_true rfl⟩ ⟨Nat.le_of_ble_eq_true rfl, Nat.le_of_ble_eq_true rfl⟩ (fun _ h => h.elim) (th_kpi (fun locs hS => ?_))
          refine lv_istore (lv' := [(9, .int (ds (0 + j))), (0, .ref dk), (1, .int (nI k0)), (2, .int old), (3, .int (nI m0)), (4, .int root), (5, .int (nI 1)), (6, .int xo), (7, .int x), (8, .int (nI (0 + j)))]) hx hb dX0_provesGrowth_81 hl (by decide) rfl (fun ls hl => ?_)
          refine lv_aload_n hx hb dX0_provesGrowth_83 rfl (lv_at hl 1 rfl) ?_
          refine va_get (D := Y.1) (ci := 0) (v := .ref y) (C := RX0) (T := TX0) (N := 3) hx hb hts inX0 hown hK hP 0 rfl rfl 2 (by decide) (hts _ tw_1_66) (fun _ h9 => h9) rfl dX0_provesGrowth_84 ?_
          refine lv_iload hx hb dX0_provesGrowth_87 (lv_at hl 9 rfl) ?_
          refine th_callV hx hb hml hown hts ⟨hK, hN⟩ hl hS (hP 2 _ rfl) rfl (rest := []) (c_X4_isFirstAt l Y _ y a1 a2 a3 (th_gR (0, m0, k0 - 1)) ((th_wa (0, m0, k0 - 1) (th_dG (0, m0, k0 - 1))).1) ((th_wa (0, m0, k0 - 1) (th_dG (0, m0, k0 - 1))).2.1) ((th_wa (0, m0, k0 - 1) (th_dG (0, m0, k0 - 1))).2.2) fr le fi (hP.sub (ws' := [(y, .inr (4, [.int (nI (th_gR (0, m0, k0 - 1))), .ref a1, .ref a2, .ref a3, .int (nI ((th_wa (0, m0, k0 - 1) (th_dG (0, m0, k0 - 1))).1)), .int (nI ((th_wa (0, m0, k0 - 1) (th_dG (0, m0, k0 - 1))).2.1)), .int (nI ((th_wa (0, m0, k0 - 1) (th_dG (0, m0, k0 - 1))).2.2))])), (a1, .inl (Y.2 0, 12, .inl fr)), (a2, .inl (Y.2 0, 12, .inl le)), (a3, .inl (Y.2 1, 12, .inl fi))]) [2, 3, 4, 5] rfl) (0 + j) (by omega) (by omega) (by rw [(hw _ (by omega)).2.2]; exact th_gF01 (0, m0, k0 - 1) _)) ok_X4_isFirstAt tw_3_14 dX0_provesGrowth_89 rfl rfl (Nat.le_of_ble_eq_true rfl) ⟨Nat.le_of_ble_eq_true rfl, Nat.le_of_ble_eq_true rfl⟩ ⟨Nat.le_of_ble_eq_true rfl, Nat.le_of_ble_eq_true rfl⟩ (fun _ h => h.elim) (th_kpi (fun locs hS => ?_))
          refine th_ti (show _ = th_gF (0, m0, k0 - 1) ((th_gR (0, m0, k0 - 1)) - 1 - (0 + j)) from (hw _ (by omega)).2.2) ?_
          refine lv_istore (lv' := [(10, .int (th_gF (0, m0, k0 - 1) ((th_gR (0, m0, k0 - 1)) - 1 - (0 + j)))), (9, .int (ds (0 + j))), (0, .ref dk), (1, .int (nI k0)), (2, .int old), (3, .int (nI m0)), (4, .int root), (5, .int (nI 1)), (6, .int xo), (7, .int x), (8, .int (nI (0 + j)))]) hx hb dX0_provesGrowth_92 hl (by decide) rfl (fun ls hl => ?_)
          refine lv_iload hx hb dX0_provesGrowth_94 (lv_at hl 0 rfl) ?_
          refine lv_if_eq (tgt := 109) hx hb dX0_provesGrowth_96 (by decide) (fun c_9 => ?_) (fun c_9 => ?_)
          · skip
            refine lv_iload hx hb dX0_provesGrowth_109 (lv_at hl 8 rfl) ?_
            refine lv_istore (lv' := [(6, .int xo), (10, .int (th_gF (0, m0, k0 - 1) ((th_gR (0, m0, k0 - 1)) - 1 - (0 + j)))), (9, .int (ds (0 + j))), (0, .ref dk), (1, .int (nI k0)), (2, .int old), (3, .int (nI m0)), (4, .int root), (5, .int (nI 1)), (7, .int x), (8, .int (nI (0 + j)))]) hx hb dX0_provesGrowth_111 hl (by decide) rfl (fun ls hl => ?_)
            refine lv_iload hx hb dX0_provesGrowth_113 (lv_at hl 1 rfl) ?_
            refine lv_if_eq (tgt := 128) hx hb dX0_provesGrowth_115 (by decide) (fun c_10 => ?_) (fun c_10 => by exfalso; exact absurd c_9 c_10)
            refine lv_iload hx hb dX0_provesGrowth_128 (lv_at hl 9 rfl) ?_
            refine lv_iload hx hb dX0_provesGrowth_130 (lv_at hl 2 rfl) ?_
            refine th_callSN hx hb hml hown hts ⟨hK, hN⟩ hl hS (rest := []) (c_X5_mix l Y _ x (ds (0 + j))) ok_X5_mix (tn_3_18 hN) dX0_provesGrowth_132 rfl rfl (Nat.le_of_ble_eq_true rfl) ⟨Nat.le_of_ble_eq_true rfl, Nat.le_of_ble_eq_true rfl⟩ ⟨Nat.le_of_ble_eq_true rfl, Nat.le_of_ble_eq_true rfl⟩ (fun _ h => h.elim) (th_kpi (fun locs hS => ?_))
            refine lv_istore (lv' := [(7, .int (th_mx x (ds (0 + j)))), (6, .int xo), (10, .int (th_gF (0, m0, k0 - 1) ((th_gR (0, m0, k0 - 1)) - 1 - (0 + j)))), (9, .int (ds (0 + j))), (0, .ref dk), (1, .int (nI k0)), (2, .int old), (3, .int (nI m0)), (4, .int root), (5, .int (nI 1)), (8, .int (nI (0 + j)))]) hx hb dX0_provesGrowth_135 hl (by decide) rfl (fun ls hl => ?_)
            refine lv_iinc (v := nI (0 + (j + 1))) (lv' := [(8, .int (nI (0 + (j + 1)))), (7, .int (th_mx x (ds (0 + j)))), (6, .int xo), (10, .int (th_gF (0, m0, k0 - 1) ((th_gR (0, m0, k0 - 1)) - 1 - (0 + j)))), (9, .int (ds (0 + j))), (0, .ref dk), (1, .int (nI k0)), (2, .int old), (3, .int (nI m0)), (4, .int root), (5, .int (nI 1))]) hx hb dX0_provesGrowth_137 hl (k := 10) rfl ((nI_add _ 1).trans (congrArg nI (by omega))) (by decide) rfl (fun ls hl => ?_)
            refine lv_goto (tgt := 66) hx hb dX0_provesGrowth_140 (by decide) ?_
            exact ih (j + 1) (xo) (th_mx x (ds (0 + j))) _ _ (by omega) (by omega) ((th_fo_s ho9).1 c_9) ((th_fd_s hx9).1 c_9) hS (lv_sub hl [5, 6, 7, 8, 9, 10, 2, 1, 0] rfl)
          refine lv_iload hx hb dX0_provesGrowth_99 (lv_at hl 1 rfl) ?_
          refine lv_iload hx hb dX0_provesGrowth_101 (lv_at hl 8 rfl) ?_
          refine th_callSN hx hb hml hown hts ⟨hK, hN⟩ hl hS (rest := []) (c_X5_mix l Y _ (ds (0 + j)) xo) ok_X5_mix (tn_3_18 hN) dX0_provesGrowth_103 rfl rfl (Nat.le_of_ble_eq_true rfl) ⟨Nat.le_of_ble_eq_true rfl, Nat.le_of_ble_eq_true rfl⟩ ⟨Nat.le_of_ble_eq_true rfl, Nat.le_of_ble_eq_true rfl⟩ (fun _ h => h.elim) (th_kpi (fun locs hS => ?_))
          refine lv_goto (tgt := 111) hx hb dX0_provesGrowth_106 (by decide) ?_
          refine lv_istore (lv' := [(6, .int (th_mx (ds (0 + j)) xo)), (10, .int (th_gF (0, m0, k0 - 1) ((th_gR (0, m0, k0 - 1)) - 1 - (0 + j)))), (9, .int (ds (0 + j))), (0, .ref dk), (1, .int (nI k0)), (2, .int old), (3, .int (nI m0)), (4, .int root), (5, .int (nI 1)), (7, .int x), (8, .int (nI (0 + j)))]) hx hb dX0_provesGrowth_111 hl (by decide) rfl (fun ls hl => ?_)
          refine lv_iload hx hb dX0_provesGrowth_113 (lv_at hl 1 rfl) ?_
          refine lv_if_eq (tgt := 128) hx hb dX0_provesGrowth_115 (by decide) (fun c_11 => by exfalso; exact absurd c_11 c_9) (fun c_11 => ?_)
          refine lv_iload hx hb dX0_provesGrowth_118 (lv_at hl 2 rfl) ?_
          refine lv_iload hx hb dX0_provesGrowth_120 (lv_at hl 9 rfl) ?_
          refine th_callSN hx hb hml hown hts ⟨hK, hN⟩ hl hS (rest := []) (c_X5_mix l Y _ (ds (0 + j)) x) ok_X5_mix (tn_3_18 hN) dX0_provesGrowth_122 rfl rfl (Nat.le_of_ble_eq_true rfl) ⟨Nat.le_of_ble_eq_true rfl, Nat.le_of_ble_eq_true rfl⟩ ⟨Nat.le_of_ble_eq_true rfl, Nat.le_of_ble_eq_true rfl⟩ (fun _ h => h.elim) (th_kpi (fun locs hS => ?_))
          refine lv_goto (tgt := 135) hx hb dX0_provesGrowth_125 (by decide) ?_
          refine lv_istore (lv' := [(7, .int (th_mx (ds (0 + j)) x)), (6, .int (th_mx (ds (0 + j)) xo)), (10, .int (th_gF (0, m0, k0 - 1) ((th_gR (0, m0, k0 - 1)) - 1 - (0 + j)))), (9, .int (ds (0 + j))), (0, .ref dk), (1, .int (nI k0)), (2, .int old), (3, .int (nI m0)), (4, .int root), (5, .int (nI 1)), (8, .int (nI (0 + j)))]) hx hb dX0_provesGrowth_135 hl (by decide) rfl (fun ls hl => ?_)
          refine lv_iinc (v := nI (0 + (j + 1))) (lv' := [(8, .int (nI (0 + (j + 1)))), (7, .int (th_mx (ds (0 + j)) x)), (6, .int (th_mx (ds (0 + j)) xo)), (10, .int (th_gF (0, m0, k0 - 1) ((th_gR (0, m0, k0 - 1)) - 1 - (0 + j)))), (9, .int (ds (0 + j))), (0, .ref dk), (1, .int (nI k0)), (2, .int old), (3, .int (nI m0)), (4, .int root), (5, .int (nI 1))]) hx hb dX0_provesGrowth_137 hl (k := 10) rfl ((nI_add _ 1).trans (congrArg nI (by omega))) (by decide) rfl (fun ls hl => ?_)
          refine lv_goto (tgt := 66) hx hb dX0_provesGrowth_140 (by decide) ?_
          exact ih (j + 1) (th_mx (ds (0 + j)) xo) (th_mx (ds (0 + j)) x) _ _ (by omega) (by omega) ((th_fo_s ho9).2 c_9) ((th_fd_s hx9).2 c_9) hS (lv_sub hl [5, 6, 7, 8, 9, 10, 2, 1, 0] rfl)
      exact lp_4 ((cnt - (0)) + 1) (0) (old) (old) _ _ (Nat.lt_succ_self _) (by omega) (rfl) (rfl) hS (lv_sub hl [4, 5, 6, 7, 8, 3, 2, 1, 0] rfl)
    rw [if_neg cF]
    refine lv_istore (lv' := [(5, .int (nI 0)), (0, .ref dk), (1, .int (nI k0)), (2, .int old), (3, .int (nI m0)), (4, .int root)]) hx hb dX0_provesGrowth_32 hl (by decide) rfl (fun ls hl => ?_)
    refine lv_iload hx hb dX0_provesGrowth_34 (lv_at hl 0 rfl) ?_
    refine th_zeq (tgt := 43) hx hb dX0_provesGrowth_36 (by decide) (by omega) (fun c_12 => ?_) (fun c_12 => by exfalso; omega)
    refine lv_aload_n hx hb dX0_provesGrowth_43 rfl (lv_at hl 1 rfl) ?_
    have zR1 : 1 ≤ (th_gR (0, m0, k0 - 1)) := Nat.pos_of_ne_zero (fun z => cF (zR z))
    refine lv_iconst (v := nI 0) hx hb dX0_provesGrowth_44 (by decide) ?_
    refine th_callV hx hb hml hown hts ⟨hK, hN⟩ hl hS (hP 0 _ rfl) rfl (rest := []) (c_X0_read l Y _ dk sm y cnt ds (hP.sub (ws' := [(dk, .inr (0, [.int (nI cnt), .ref sm, .ref y])), (sm, .inl (Y.2 0, 12, .inl ds))]) [0, 1] rfl) 0 (by omega) (by omega)) ok_X0_read tw_2_229 dX0_provesGrowth_45 rfl rfl (Nat.le_of_ble_eq_true rfl) ⟨Nat.le_of_ble_eq_true rfl, Nat.le_of_ble_eq_true rfl⟩ ⟨Nat.le_of_ble_eq_true rfl, Nat.le_of_ble_eq_true rfl⟩ (fun _ h => h.elim) (th_kpi (fun locs hS => ?_))
    refine lv_istore (lv' := [(6, .int (ds 0)), (5, .int (nI 0)), (0, .ref dk), (1, .int (nI k0)), (2, .int old), (3, .int (nI m0)), (4, .int root)]) hx hb dX0_provesGrowth_48 hl (by decide) rfl (fun ls hl => ?_)
    refine lv_iload hx hb dX0_provesGrowth_50 (lv_at hl 0 rfl) ?_
    refine lv_istore (lv' := [(7, .int (ds 0)), (6, .int (ds 0)), (5, .int (nI 0)), (0, .ref dk), (1, .int (nI k0)), (2, .int old), (3, .int (nI m0)), (4, .int root)]) hx hb dX0_provesGrowth_52 hl (by decide) rfl (fun ls hl => ?_)
    refine lv_iload hx hb dX0_provesGrowth_54 (lv_at hl 2 rfl) ?_
    refine th_zeq (tgt := 63) hx hb dX0_provesGrowth_56 (by decide) (by omega) (fun c_13 => ?_) (fun c_13 => by exfalso; omega)
    refine lv_iconst (v := nI 1) hx hb dX0_provesGrowth_63 (by decide) ?_
    refine lv_istore (lv' := [(8, .int (nI 1)), (7, .int (ds 0)), (6, .int (ds 0)), (5, .int (nI 0)), (0, .ref dk), (1, .int (nI k0)), (2, .int old), (3, .int (nI m0)), (4, .int root)]) hx hb dX0_provesGrowth_64 hl (by decide) rfl (fun ls hl => ?_)
    have lp_14 : ∀ (n_15 : Nat) (j : Nat) (xo : Int32) (x : Int32) (locs : List Loc) (ls : Array Slot), cnt - j < n_15 → (1 + j ≤ cnt) → (xo = th_fo (th_gR (0, m0, k0 - 1)) (th_gF (0, m0, k0 - 1)) ds 1 (ds 0) j) → (x = th_fd (th_gR (0, m0, k0 - 1)) (th_gF (0, m0, k0 - 1)) ds 1 (ds 0) j) → va_S (fun z => z ∈ [dk, sm, y, a1, a2, a3]) H0 H locs → lv_has ls 11 [(0, .ref dk), (1, .int (nI k0)), (2, .int old), (3, .int (nI m0)), (4, .int root), (5, .int (nI 0)), (6, .int xo), (7, .int x), (8, .int (nI (1 + j)))] → W p l e (th_rm 4 0 0) s m args below meth c H locs 0 0 Q (F0 m 66 ls []) := by
      intro n_15; induction n_15 with
      | zero => intros; exfalso; omega
      | succ n_15 ih =>
        intro j xo x locs ls hmz hj ho9 hx9 hS hl
        refine lv_iload hx hb dX0_provesGrowth_66 (lv_at hl 8 rfl) ?_
        refine lv_aload_n hx hb dX0_provesGrowth_68 rfl (lv_at hl 0 rfl) ?_
        refine va_get (D := Y.1) (ci := 0) (v := .int (nI cnt)) (C := RX0) (T := TX0) (N := 3) hx hb hts inX0 hown hK hP 0 rfl rfl 0 (by decide) (hts _ tw_1_63) (fun _ h9 => h9) rfl dX0_provesGrowth_69 ?_
        refine th_ige (tgt := 143) hx hb dX0_provesGrowth_72 (by decide) (by omega) (by omega) (fun c_16 => ?_) (fun c_16 => ?_)
        · skip
          refine lv_iload hx hb dX0_provesGrowth_143 (lv_at hl 6 rfl) ?_
          refine lv_iload_n hx hb dX0_provesGrowth_145 rfl (lv_at hl 2 rfl) ?_
          refine lv_icmp_ne (tgt := 160) hx hb dX0_provesGrowth_146 (by decide) (fun c_17 => ?_) (fun c_17 => ?_)
          · skip
            refine lv_iconst (v := nI 0) hx hb dX0_provesGrowth_160 (by decide) ?_
            refine th_zret hx hb hr hlk hQ hS dX0_provesGrowth_161 (Nat.le_of_ble_eq_true rfl) (Nat.le_of_ble_eq_true rfl) (by first | exact Or.inl rfl | exact Or.inr rfl | assumption) ?_
            have zj : j = (th_gR (0, m0, k0 - 1)) - 1 := by omega
            rw [zj] at hx9 ho9
            exact ⟨_, rfl, by rw [th_bF (fun z => c_17 (ho9.trans (z.2.2 cF).1))], ⟨_, _, _, _, fr, le, fi, hP⟩⟩
          refine lv_iload hx hb dX0_provesGrowth_149 (lv_at hl 7 rfl) ?_
          refine lv_iload hx hb dX0_provesGrowth_151 (lv_at hl 4 rfl) ?_
          refine lv_icmp_ne (tgt := 160) hx hb dX0_provesGrowth_153 (by decide) (fun c_18 => ?_) (fun c_18 => ?_)
          · skip
            refine lv_iconst (v := nI 0) hx hb dX0_provesGrowth_160 (by decide) ?_
            refine th_zret hx hb hr hlk hQ hS dX0_provesGrowth_161 (Nat.le_of_ble_eq_true rfl) (Nat.le_of_ble_eq_true rfl) (by first | exact Or.inl rfl | exact Or.inr rfl | assumption) ?_
            have zj : j = (th_gR (0, m0, k0 - 1)) - 1 := by omega
            rw [zj] at hx9 ho9
            exact ⟨_, rfl, by rw [th_bF (fun z => c_18 (hx9.trans (z.2.2 cF).2))], ⟨_, _, _, _, fr, le, fi, hP⟩⟩
          refine lv_iconst (v := nI 1) hx hb dX0_provesGrowth_156 (by decide) ?_
          refine lv_goto (tgt := 161) hx hb dX0_provesGrowth_157 (by decide) ?_
          refine th_zret hx hb hr hlk hQ hS dX0_provesGrowth_161 (Nat.le_of_ble_eq_true rfl) (Nat.le_of_ble_eq_true rfl) (by first | exact Or.inl rfl | exact Or.inr rfl | assumption) ?_
          have zj : j = (th_gR (0, m0, k0 - 1)) - 1 := by omega
          rw [zj] at hx9 ho9
          exact ⟨_, rfl, by rw [th_bT ⟨c_1, fun z => absurd z cF, fun _ => ⟨ho9.symm.trans c_17, hx9.symm.trans c_18⟩⟩], ⟨_, _, _, _, fr, le, fi, hP⟩⟩
        refine lv_aload_n hx hb dX0_provesGrowth_75 rfl (lv_at hl 0 rfl) ?_
        refine lv_iload hx hb dX0_provesGrowth_76 (lv_at hl 8 rfl) ?_
        refine th_callV hx hb hml hown hts ⟨hK, hN⟩ hl hS (hP 0 _ rfl) rfl (rest := []) (c_X0_read l Y _ dk sm y cnt ds (hP.sub (ws' := [(dk, .inr (0, [.int (nI cnt), .ref sm, .ref y])), (sm, .inl (Y.2 0, 12, .inl ds))]) [0, 1] rfl) (1 + j) (by omega) (by omega)) ok_X0_read tw_2_229 dX0_provesGrowth_78 rfl rfl (Nat.le_of_ble_eq_true rfl) ⟨Nat.le_of_ble_eq_true rfl, Nat.le_of_ble_eq_true rfl⟩ ⟨Nat.le_of_ble_eq_true rfl, Nat.le_of_ble_eq_true rfl⟩ (fun _ h => h.elim) (th_kpi (fun locs hS => ?_))
        refine lv_istore (lv' := [(9, .int (ds (1 + j))), (0, .ref dk), (1, .int (nI k0)), (2, .int old), (3, .int (nI m0)), (4, .int root), (5, .int (nI 0)), (6, .int xo), (7, .int x), (8, .int (nI (1 + j)))]) hx hb dX0_provesGrowth_81 hl (by decide) rfl (fun ls hl => ?_)
        refine lv_aload_n hx hb dX0_provesGrowth_83 rfl (lv_at hl 1 rfl) ?_
        refine va_get (D := Y.1) (ci := 0) (v := .ref y) (C := RX0) (T := TX0) (N := 3) hx hb hts inX0 hown hK hP 0 rfl rfl 2 (by decide) (hts _ tw_1_66) (fun _ h9 => h9) rfl dX0_provesGrowth_84 ?_
        refine lv_iload hx hb dX0_provesGrowth_87 (lv_at hl 9 rfl) ?_
        refine th_callV hx hb hml hown hts ⟨hK, hN⟩ hl hS (hP 2 _ rfl) rfl (rest := []) (c_X4_isFirstAt l Y _ y a1 a2 a3 (th_gR (0, m0, k0 - 1)) ((th_wa (0, m0, k0 - 1) (th_dG (0, m0, k0 - 1))).1) ((th_wa (0, m0, k0 - 1) (th_dG (0, m0, k0 - 1))).2.1) ((th_wa (0, m0, k0 - 1) (th_dG (0, m0, k0 - 1))).2.2) fr le fi (hP.sub (ws' := [(y, .inr (4, [.int (nI (th_gR (0, m0, k0 - 1))), .ref a1, .ref a2, .ref a3, .int (nI ((th_wa (0, m0, k0 - 1) (th_dG (0, m0, k0 - 1))).1)), .int (nI ((th_wa (0, m0, k0 - 1) (th_dG (0, m0, k0 - 1))).2.1)), .int (nI ((th_wa (0, m0, k0 - 1) (th_dG (0, m0, k0 - 1))).2.2))])), (a1, .inl (Y.2 0, 12, .inl fr)), (a2, .inl (Y.2 0, 12, .inl le)), (a3, .inl (Y.2 1, 12, .inl fi))]) [2, 3, 4, 5] rfl) (1 + j) (by omega) (by omega) (by rw [(hw _ (by omega)).2.2]; exact th_gF01 (0, m0, k0 - 1) _)) ok_X4_isFirstAt tw_3_14 dX0_provesGrowth_89 rfl rfl (Nat.le_of_ble_eq_true rfl) ⟨Nat.le_of_ble_eq_true rfl, Nat.le_of_ble_eq_true rfl⟩ ⟨Nat.le_of_ble_eq_true rfl, Nat.le_of_ble_eq_true rfl⟩ (fun _ h => h.elim) (th_kpi (fun locs hS => ?_))
        refine th_ti (show _ = th_gF (0, m0, k0 - 1) ((th_gR (0, m0, k0 - 1)) - 1 - (1 + j)) from (hw _ (by omega)).2.2) ?_
        refine lv_istore (lv' := [(10, .int (th_gF (0, m0, k0 - 1) ((th_gR (0, m0, k0 - 1)) - 1 - (1 + j)))), (9, .int (ds (1 + j))), (0, .ref dk), (1, .int (nI k0)), (2, .int old), (3, .int (nI m0)), (4, .int root), (5, .int (nI 0)), (6, .int xo), (7, .int x), (8, .int (nI (1 + j)))]) hx hb dX0_provesGrowth_92 hl (by decide) rfl (fun ls hl => ?_)
        refine lv_iload hx hb dX0_provesGrowth_94 (lv_at hl 0 rfl) ?_
        refine lv_if_eq (tgt := 109) hx hb dX0_provesGrowth_96 (by decide) (fun c_19 => ?_) (fun c_19 => ?_)
        · skip
          refine lv_iload hx hb dX0_provesGrowth_109 (lv_at hl 8 rfl) ?_
          refine lv_istore (lv' := [(6, .int xo), (10, .int (th_gF (0, m0, k0 - 1) ((th_gR (0, m0, k0 - 1)) - 1 - (1 + j)))), (9, .int (ds (1 + j))), (0, .ref dk), (1, .int (nI k0)), (2, .int old), (3, .int (nI m0)), (4, .int root), (5, .int (nI 0)), (7, .int x), (8, .int (nI (1 + j)))]) hx hb dX0_provesGrowth_111 hl (by decide) rfl (fun ls hl => ?_)
          refine lv_iload hx hb dX0_provesGrowth_113 (lv_at hl 1 rfl) ?_
          refine lv_if_eq (tgt := 128) hx hb dX0_provesGrowth_115 (by decide) (fun c_20 => ?_) (fun c_20 => by exfalso; exact absurd c_19 c_20)
          refine lv_iload hx hb dX0_provesGrowth_128 (lv_at hl 9 rfl) ?_
          refine lv_iload hx hb dX0_provesGrowth_130 (lv_at hl 2 rfl) ?_
          refine th_callSN hx hb hml hown hts ⟨hK, hN⟩ hl hS (rest := []) (c_X5_mix l Y _ x (ds (1 + j))) ok_X5_mix (tn_3_18 hN) dX0_provesGrowth_132 rfl rfl (Nat.le_of_ble_eq_true rfl) ⟨Nat.le_of_ble_eq_true rfl, Nat.le_of_ble_eq_true rfl⟩ ⟨Nat.le_of_ble_eq_true rfl, Nat.le_of_ble_eq_true rfl⟩ (fun _ h => h.elim) (th_kpi (fun locs hS => ?_))
          refine lv_istore (lv' := [(7, .int (th_mx x (ds (1 + j)))), (6, .int xo), (10, .int (th_gF (0, m0, k0 - 1) ((th_gR (0, m0, k0 - 1)) - 1 - (1 + j)))), (9, .int (ds (1 + j))), (0, .ref dk), (1, .int (nI k0)), (2, .int old), (3, .int (nI m0)), (4, .int root), (5, .int (nI 0)), (8, .int (nI (1 + j)))]) hx hb dX0_provesGrowth_135 hl (by decide) rfl (fun ls hl => ?_)
          refine lv_iinc (v := nI (1 + (j + 1))) (lv' := [(8, .int (nI (1 + (j + 1)))), (7, .int (th_mx x (ds (1 + j)))), (6, .int xo), (10, .int (th_gF (0, m0, k0 - 1) ((th_gR (0, m0, k0 - 1)) - 1 - (1 + j)))), (9, .int (ds (1 + j))), (0, .ref dk), (1, .int (nI k0)), (2, .int old), (3, .int (nI m0)), (4, .int root), (5, .int (nI 0))]) hx hb dX0_provesGrowth_137 hl (k := 10) rfl ((nI_add _ 1).trans (congrArg nI (by omega))) (by decide) rfl (fun ls hl => ?_)
          refine lv_goto (tgt := 66) hx hb dX0_provesGrowth_140 (by decide) ?_
          exact ih (j + 1) (xo) (th_mx x (ds (1 + j))) _ _ (by omega) (by omega) ((th_fo_s ho9).1 c_19) ((th_fd_s hx9).1 c_19) hS (lv_sub hl [5, 6, 7, 8, 9, 10, 2, 1, 0] rfl)
        refine lv_iload hx hb dX0_provesGrowth_99 (lv_at hl 1 rfl) ?_
        refine lv_iload hx hb dX0_provesGrowth_101 (lv_at hl 8 rfl) ?_
        refine th_callSN hx hb hml hown hts ⟨hK, hN⟩ hl hS (rest := []) (c_X5_mix l Y _ (ds (1 + j)) xo) ok_X5_mix (tn_3_18 hN) dX0_provesGrowth_103 rfl rfl (Nat.le_of_ble_eq_true rfl) ⟨Nat.le_of_ble_eq_true rfl, Nat.le_of_ble_eq_true rfl⟩ ⟨Nat.le_of_ble_eq_true rfl, Nat.le_of_ble_eq_true rfl⟩ (fun _ h => h.elim) (th_kpi (fun locs hS => ?_))
        refine lv_goto (tgt := 111) hx hb dX0_provesGrowth_106 (by decide) ?_
        refine lv_istore (lv' := [(6, .int (th_mx (ds (1 + j)) xo)), (10, .int (th_gF (0, m0, k0 - 1) ((th_gR (0, m0, k0 - 1)) - 1 - (1 + j)))), (9, .int (ds (1 + j))), (0, .ref dk), (1, .int (nI k0)), (2, .int old), (3, .int (nI m0)), (4, .int root), (5, .int (nI 0)), (7, .int x), (8, .int (nI (1 + j)))]) hx hb dX0_provesGrowth_111 hl (by decide) rfl (fun ls hl => ?_)
        refine lv_iload hx hb dX0_provesGrowth_113 (lv_at hl 1 rfl) ?_
        refine lv_if_eq (tgt := 128) hx hb dX0_provesGrowth_115 (by decide) (fun c_21 => by exfalso; exact absurd c_21 c_19) (fun c_21 => ?_)
        refine lv_iload hx hb dX0_provesGrowth_118 (lv_at hl 2 rfl) ?_
        refine lv_iload hx hb dX0_provesGrowth_120 (lv_at hl 9 rfl) ?_
        refine th_callSN hx hb hml hown hts ⟨hK, hN⟩ hl hS (rest := []) (c_X5_mix l Y _ (ds (1 + j)) x) ok_X5_mix (tn_3_18 hN) dX0_provesGrowth_122 rfl rfl (Nat.le_of_ble_eq_true rfl) ⟨Nat.le_of_ble_eq_true rfl, Nat.le_of_ble_eq_true rfl⟩ ⟨Nat.le_of_ble_eq_true rfl, Nat.le_of_ble_eq_true rfl⟩ (fun _ h => h.elim) (th_kpi (fun locs hS => ?_))
        refine lv_goto (tgt := 135) hx hb dX0_provesGrowth_125 (by decide) ?_
        refine lv_istore (lv' := [(7, .int (th_mx (ds (1 + j)) x)), (6, .int (th_mx (ds (1 + j)) xo)), (10, .int (th_gF (0, m0, k0 - 1) ((th_gR (0, m0, k0 - 1)) - 1 - (1 + j)))), (9, .int (ds (1 + j))), (0, .ref dk), (1, .int (nI k0)), (2, .int old), (3, .int (nI m0)), (4, .int root), (5, .int (nI 0)), (8, .int (nI (1 + j)))]) hx hb dX0_provesGrowth_135 hl (by decide) rfl (fun ls hl => ?_)
        refine lv_iinc (v := nI (1 + (j + 1))) (lv' := [(8, .int (nI (1 + (j + 1)))), (7, .int (th_mx (ds (1 + j)) x)), (6, .int (th_mx (ds (1 + j)) xo)), (10, .int (th_gF (0, m0, k0 - 1) ((th_gR (0, m0, k0 - 1)) - 1 - (1 + j)))), (9, .int (ds (1 + j))), (0, .ref dk), (1, .int (nI k0)), (2, .int old), (3, .int (nI m0)), (4, .int root), (5, .int (nI 0))]) hx hb dX0_provesGrowth_137 hl (k := 10) rfl ((nI_add _ 1).trans (congrArg nI (by omega))) (by decide) rfl (fun ls hl => ?_)
        refine lv_goto (tgt := 66) hx hb dX0_provesGrowth_140 (by decide) ?_
        exact ih (j + 1) (th_mx (ds (1 + j)) xo) (th_mx (ds (1 + j)) x) _ _ (by omega) (by omega) ((th_fo_s ho9).2 c_19) ((th_fd_s hx9).2 c_19) hS (lv_sub hl [5, 6, 7, 8, 9, 10, 2, 1, 0] rfl)
    exact lp_14 ((cnt - (0)) + 1) (0) (ds 0) (ds 0) _ _ (Nat.lt_succ_self _) (by omega) (rfl) (rfl) hS (lv_sub hl [4, 5, 6, 7, 8, 3, 2, 1, 0] rfl)
  refine lv_iconst (v := nI 0) hx hb dX0_provesGrowth_23 (by decide) ?_
  refine th_zret hx hb hr hlk hQ hS dX0_provesGrowth_24 (Nat.le_of_ble_eq_true rfl) (Nat.le_of_ble_eq_true rfl) (by first | exact Or.inl rfl | exact Or.inr rfl | assumption) ?_
  exact ⟨_, rfl, by rw [th_bF (fun z => c_1 z.1)], ⟨_, _, _, _, fr, le, fi, hP⟩⟩
end

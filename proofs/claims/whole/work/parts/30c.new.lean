/-! new objects and arrays -/
theorem to_View : Cond.arrayOver (.object "TreeheadGallery$View") ∈ lw_tbl := List.mem_append_right _ (List.mem_append_left _ (List.mem_of_getElem? (i := 23) rfl))
theorem to_Watcher : Cond.arrayOver (.object "TreeheadGallery$Watcher") ∈ lw_tbl := List.mem_append_right _ (List.mem_append_left _ (List.mem_of_getElem? (i := 25) rfl))
section
variable {p : Program} {l : Launch} {e : Env} {R : Room} {s : State} {m : MethodId} {args : Array Value} {below : List Frame} {meth : Method} {c : Code} {H : Heap} {locs : List Loc} {cells slots : Nat} {Q : State → Prop}
variable {cc : ByteArray} {pc : Nat} {ls : Array Slot} {rest : List Value} {a : Nat} {Y : th_Y} {ws : va_W} {A : Nat → Prop} {H0 : Heap} {n : Nat}
theorem th_newI (hexec : p.tables.exec = Jvm.exec) (hb : c.code = cc) (hts : ∀ w ∈ th_G, w.before args s = true) (warr : Cond.arrayClass .int ∈ th_G) (hK : th_k Y s) (hP : va_P Y.1 vwCl ws H) (hD : va_D A ws) (hS : va_S A H0 H locs) (hA : ∀ q, H0.size ≤ q → A q) (hn : n ≤ 100000) (hcells : cells + 1 ≤ R.cells) (hslots : slots + n ≤ R.slots) (hdg : decode cc pc = .ok (.newarray .int, 2))
    (kk : ∀ (q : Nat) (H1 : Heap), va_P Y.1 vwCl (ws ++ [(q, .inl (Y.2 0, n, .inl (fun _ => nI 0)))]) H1 → va_D A (ws ++ [(q, .inl (Y.2 0, n, .inl (fun _ => nI 0)))]) → va_S A H0 H1 locs → W p l e R s m args below meth c H1 locs (cells + 1) (slots + n) Q (F0 m (pc + 2) ls (.ref q :: rest))) : W p l e R s m args below meth c H locs cells slots Q (F0 m pc ls (.int (nI n) :: rest)) := by
  refine va_newa (atype := .int) (N' := n) (ty := .int) (a0 := (n, .inl (fun _ => nI 0))) hexec hb (hts _ warr) rfl hK hP hD hS hA (fun _ => rfl) (nI_pos (by omega)) (nI_clamp (by omega)) (by show n * 4 ≤ 536870912; omega) hcells hslots hdg (fun q cA H1 hK1 hP1 hD1 hS1 => ?_)
  have h1 : s.vm.findClass _ = some (Y.2 0) := (hK.2 0 _ rfl).2
  have h2 : s.vm.findClass _ = some cA := (hK1.2 5 (cA, .int) rfl).2
  have e : cA = Y.2 0 := Option.some.inj (h2.symm.trans h1)
  subst e
  exact kk q H1 hP1 hD1 hS1
theorem th_newZ (hexec : p.tables.exec = Jvm.exec) (hb : c.code = cc) (hts : ∀ w ∈ th_G, w.before args s = true) (warr : Cond.arrayClass .boolean ∈ th_G) (hK : th_k Y s) (hP : va_P Y.1 vwCl ws H) (hD : va_D A ws) (hS : va_S A H0 H locs) (hA : ∀ q, H0.size ≤ q → A q) (hn : n ≤ 100000) (hcells : cells + 1 ≤ R.cells) (hslots : slots + n ≤ R.slots) (hdg : decode cc pc = .ok (.newarray .boolean, 2))
    (kk : ∀ (q : Nat) (H1 : Heap), va_P Y.1 vwCl (ws ++ [(q, .inl (Y.2 1, n, .inl (fun _ => nI 0)))]) H1 → va_D A (ws ++ [(q, .inl (Y.2 1, n, .inl (fun _ => nI 0)))]) → va_S A H0 H1 locs → W p l e R s m args below meth c H1 locs (cells + 1) (slots + n) Q (F0 m (pc + 2) ls (.ref q :: rest))) : W p l e R s m args below meth c H locs cells slots Q (F0 m pc ls (.int (nI n) :: rest)) := by
  refine va_newa (atype := .boolean) (N' := n) (ty := .boolean) (a0 := (n, .inl (fun _ => nI 0))) hexec hb (hts _ warr) rfl hK hP hD hS hA (fun _ => rfl) (nI_pos (by omega)) (nI_clamp (by omega)) (by show n * 1 ≤ 536870912; omega) hcells hslots hdg (fun q cA H1 hK1 hP1 hD1 hS1 => ?_)
  have h1 : s.vm.findClass _ = some (Y.2 1) := (hK.2 1 _ rfl).2
  have h2 : s.vm.findClass _ = some cA := (hK1.2 5 (cA, .boolean) rfl).2
  have e : cA = Y.2 1 := Option.some.inj (h2.symm.trans h1)
  subst e
  exact kk q H1 hP1 hD1 hS1
theorem th_newQ {own C : String} {index t0 : Nat} (hexec : p.tables.exec = Jvm.exec) (hb : c.code = cc) (hown : s.vm.findClass own = some m.cls) (hcl : (Cond.classLink own index C).before args s = true) (wo : Cond.arrayOver (.object C) ∈ lw_tbl) (hT : th_T A s) (hK : th_k Y s) (ht : (th_tys Y)[t0]? = some (Y.2 t0, .object C)) (hP : va_P Y.1 vwCl ws H) (hD : va_D A ws) (hS : va_S A H0 H locs) (hA : ∀ q, H0.size ≤ q → A q) (hn : n ≤ 100000) (hcells : cells + 1 ≤ R.cells) (hslots : slots + n ≤ R.slots) (hdg : decode cc pc = .ok (.anewarray index, 3))
    (kk : ∀ (q : Nat) (H1 : Heap), va_P Y.1 vwCl (ws ++ [(q, .inl (Y.2 t0, n, .inr (.inr (.inr (.inr (fun _ => none))))))]) H1 → va_D A (ws ++ [(q, .inl (Y.2 t0, n, .inr (.inr (.inr (.inr (fun _ => none))))))]) → va_S A H0 H1 locs → W p l e R s m args below meth c H1 locs (cells + 1) (slots + n) Q (F0 m (pc + 3) ls (.ref q :: rest))) : W p l e R s m args below meth c H locs cells slots Q (F0 m pc ls (.int (nI n) :: rest)) := by
  refine va_newq (N' := n) hexec hb hown hcl (hT.2.2.2.2 _ wo) hK hP hD hS hA (nI_pos (by omega)) (nI_clamp (by omega)) (by omega) hcells hslots hdg (fun q cA H1 hK1 hP1 hD1 hS1 => ?_)
  obtain ⟨-, -, -, -, -, h1⟩ := (hK.2 t0 _ ht).2
  obtain ⟨-, -, -, -, -, h2⟩ := (hK1.2 5 (cA, .object C) rfl).2
  have e : cA = Y.2 t0 := Option.some.inj (h2.symm.trans h1)
  subst e
  exact kk q H1 hP1 hD1 hS1
theorem th_aast {q0 t0 qk ci j v : Nat} {cA : ClassId} {r : vw_C} {vs : List Value} {f : Nat → Option Nat} (hexec : p.tables.exec = Jvm.exec) (hb : c.code = cc) (hK : th_k Y s) (hP : va_P Y.1 vwCl ws H) (hD : va_D A ws) (hS : va_S A H0 H locs) (q0 t0 qk ci : Nat) (ha : ws[q0]? = some (a, .inl (cA, n, .inr (.inr (.inr (.inr f)))))) (ht : (th_tys Y)[t0]? = some (cA, .object r.1)) (hv : ws[qk]? = some (v, .inr (ci, vs))) (hc : vwCl[ci]? = some r) (hj : j < n) (hn : n < 2147483648) (hdg : decode cc pc = .ok (.aastore, 1))
    (kk : ∀ (H1 : Heap) (locs1 : List Loc), va_P Y.1 vwCl (ws.set q0 (a, .inl (cA, n, .inr (.inr (.inr (.inr (va_up f j (some v)))))))) H1 → va_D A (ws.set q0 (a, .inl (cA, n, .inr (.inr (.inr (.inr (va_up f j (some v)))))))) → va_S A H0 H1 locs1 → W p l e R s m args below meth c H1 locs1 cells slots Q (F0 m (pc + 1) ls rest)) : W p l e R s m args below meth c H locs cells slots Q (F0 m pc ls (.ref v :: .int (nI j) :: .ref a :: rest)) := by
  refine va_astq hexec hb hK hP hD hS q0 t0 qk ci ha ht hv hc (vp_in_nI hj hn) hdg ?_
  rw [nI_clamp (by omega)]
  exact kk
end
/-- behind a constructor's call on the last cell of a world -/
theorem th_joinN {D : va_G} {cl : List vw_C} {A : Nat → Prop} {H H1 : Heap} {ws w1 : va_W} {o : Nat} {eo : va_E} (hP : va_P D cl (ws ++ [(o, eo)]) H) (hD : va_D A (ws ++ [(o, eo)])) (hs : th_Same (fun q => q = o ∨ H.size ≤ q) H H1) (hP1 : va_P D cl w1 H1) (hD1 : va_D (fun q => q = o ∨ H.size ≤ q) w1) (hA : ∀ q, H.size ≤ q → A q) : va_P D cl (ws ++ w1) H1 ∧ va_D A (ws ++ w1) := by
  have hlast : (ws ++ [(o, eo)])[ws.length]? = some (o, eo) := by rw [List.getElem?_append_right (Nat.le_refl _), Nat.sub_self]; rfl
  have old : ∀ (k : Nat) (q : Nat × va_E), ws[k]? = some q → q.1 < H.size ∧ q.1 ≠ o ∧ A q.1 ∧ va_at D cl q H := fun k q hk => by
    have hl : k < ws.length := (List.getElem?_eq_some_iff.mp hk).1
    have h1 : (ws ++ [(o, eo)])[k]? = some q := by rw [List.getElem?_append_left hl]; exact hk
    refine ⟨(hP k q h1).lt, fun z => ?_, hD.2 k q h1, hP k q h1⟩
    have := hD.1 k ws.length q (o, eo) h1 hlast z
    omega
  refine ⟨va_P.app (fun k q hk => ?_) hP1, fun i j x y hi hj hxy => ?_, fun k q hk => ?_⟩
  · obtain ⟨h1, h2, -, h4⟩ := old k q hk
    exact h4.kept (hs.2 q.1 h1 (fun z => z.elim h2 (fun z => by omega)))
  · by_cases ci : i < ws.length
    · rw [List.getElem?_append_left ci] at hi
      by_cases cj : j < ws.length
      · rw [List.getElem?_append_left cj] at hj
        exact hD.1 i j x y (by rw [List.getElem?_append_left ci]; exact hi) (by rw [List.getElem?_append_left cj]; exact hj) hxy
      · rw [List.getElem?_append_right (by omega)] at hj
        obtain ⟨h1, h2, -, -⟩ := old i x hi
        rcases hD1.2 _ _ hj with h3 | h3
        · exact absurd (hxy.trans h3) h2
        · omega
    · rw [List.getElem?_append_right (by omega)] at hi
      by_cases cj : j < ws.length
      · rw [List.getElem?_append_left cj] at hj
        obtain ⟨h1, h2, -, -⟩ := old j y hj
        rcases hD1.2 _ _ hi with h3 | h3
        · exact absurd (hxy.symm.trans h3) h2
        · omega
      · rw [List.getElem?_append_right (by omega)] at hj
        have := hD1.1 _ _ x y hi hj hxy
        omega
  · by_cases c : k < ws.length
    · rw [List.getElem?_append_left c] at hk
      exact (old k q hk).2.2.1
    · rw [List.getElem?_append_right (by omega)] at hk
      rcases hD1.2 _ _ hk with h | h
      · rw [h]; exact hD.2 ws.length (o, eo) hlast
      · exact hA _ h
theorem th_atq {D : va_G} {cl : List vw_C} {H : Heap} {a n : Nat} {cA : ClassId} {f g : Nat → Option Nat} (h : va_at D cl (a, .inl (cA, n, .inr (.inr (.inr (.inr f))))) H) (he : ∀ j, j < n → f j = g j) : va_at D cl (a, .inl (cA, n, .inr (.inr (.inr (.inr g))))) H := by
  have h1 : H[a]? = some (vp_cell cA (n, .inr (.inr (.inr (.inr f))))) := h
  show H[a]? = some (vp_cell cA (n, .inr (.inr (.inr (.inr g)))))
  rw [h1, vp_cell_q, vp_cell_q]
  have e : (fun j : Fin n => va_rf (f j.val)) = fun j : Fin n => va_rf (g j.val) := funext fun j => by rw [he j.1 j.2]
  show some ({ cls := cA, slots := Array.ofFn (n := n) fun j => va_rf (f j.val), vm := .none } : Cell) = some { cls := cA, slots := Array.ofFn (n := n) fun j => va_rf (g j.val), vm := .none }
  rw [e]
theorem th_lv0 {kv : Nat → Int32} (h : ∀ j, j < 64 → kv j = -1) : th_MI kv (fun _ => nI 0) := fun L i hL hi => by
  rw [th_lvE (g := fun _ => -1) h L i hL hi]
  have key : ∀ L i : Nat, th_lv (fun _ => (-1 : Int32)) L i = nI 0 := by
    intro L
    induction L with
    | zero =>
      intro i
      show th_ks (-1) = nI 0
      exact if_pos rfl
    | succ L ih =>
      intro i
      show th_jn _ _ = _
      rw [ih, ih]
      exact if_pos ⟨rfl, rfl⟩
  exact (key L i).symm
theorem th_D1 {A : Nat → Prop} {a : Nat} {ea : va_E} (h : A a) : va_D A [(a, ea)] := ⟨fun i j x y hi hj _ => by
    have l1 := (List.getElem?_eq_some_iff.mp hi).1
    have l2 := (List.getElem?_eq_some_iff.mp hj).1
    simp only [List.length_cons, List.length_nil] at l1 l2
    omega, fun k q hq => by
    have l1 := (List.getElem?_eq_some_iff.mp hq).1
    simp only [List.length_cons, List.length_nil] at l1
    obtain rfl : k = 0 := by omega
    cases hq
    exact h⟩

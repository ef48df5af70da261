/-! the law's loop: the state between two calls -/
theorem th_RGlt {Y : th_Y} {ro : Nat → Nat} {thr : Int32} {S : th_S} {H : Heap} (h : th_RG Y ro thr S H) : ∀ j, j < 16 → ro j < H.size := by
  obtain ⟨stp, efr, esz, etr, val, siz, tre, spa, pro, bes, isr, key, lev, kvi, ksz, krt, ala, fol, cts, hP, -⟩ := h
  intro j hj
  rcases (show j = 0 ∨ j = 1 ∨ j = 2 ∨ j = 3 ∨ j = 4 ∨ j = 5 ∨ j = 6 ∨ j = 7 ∨ j = 8 ∨ j = 9 ∨ j = 10 ∨ j = 11 ∨ j = 12 ∨ j = 13 ∨ j = 14 ∨ j = 15 by omega) with rfl | rfl | rfl | rfl | rfl | rfl | rfl | rfl | rfl | rfl | rfl | rfl | rfl | rfl | rfl | rfl
  · exact (hP 0 _ rfl).lt
  · exact (hP 1 _ rfl).lt
  · exact (hP 2 _ rfl).lt
  · exact (hP 3 _ rfl).lt
  · exact (hP 4 _ rfl).lt
  · exact (hP 5 _ rfl).lt
  · exact (hP 6 _ rfl).lt
  · exact (hP 7 _ rfl).lt
  · exact (hP 8 _ rfl).lt
  · exact (hP 9 _ rfl).lt
  · exact (hP 10 _ rfl).lt
  · exact (hP 11 _ rfl).lt
  · exact (hP 12 _ rfl).lt
  · exact (hP 13 _ rfl).lt
  · exact (hP 14 _ rfl).lt
  · exact (hP 15 _ rfl).lt
theorem th_RGkeep {Y : th_Y} {ro : Nat → Nat} {thr : Int32} {S : th_S} {P : Nat → Prop} {H H1 : Heap} (h : th_RG Y ro thr S H) (hn : ∀ j, j < 16 → ¬ P (ro j)) (hs : th_Same P H H1) : th_RG Y ro thr S H1 := by
  obtain ⟨stp, efr, esz, etr, val, siz, tre, spa, pro, bes, isr, key, lev, kvi, ksz, krt, ala, fol, cts, hP, hv⟩ := h
  refine ⟨stp, efr, esz, etr, val, siz, tre, spa, pro, bes, isr, key, lev, kvi, ksz, krt, ala, fol, cts, fun k q hk => ?_, hv⟩
  have h1 := hP k q hk
  refine h1.kept (hs.2 _ h1.lt ?_)
  have hj : k < 16 := (List.getElem?_eq_some_iff.mp hk).1
  rcases (show k = 0 ∨ k = 1 ∨ k = 2 ∨ k = 3 ∨ k = 4 ∨ k = 5 ∨ k = 6 ∨ k = 7 ∨ k = 8 ∨ k = 9 ∨ k = 10 ∨ k = 11 ∨ k = 12 ∨ k = 13 ∨ k = 14 ∨ k = 15 by omega) with rfl | rfl | rfl | rfl | rfl | rfl | rfl | rfl | rfl | rfl | rfl | rfl | rfl | rfl | rfl | rfl
  · have e9 := Option.some.inj hk
    rw [← e9]
    exact hn 0 (by decide)
  · have e9 := Option.some.inj hk
    rw [← e9]
    exact hn 1 (by decide)
  · have e9 := Option.some.inj hk
    rw [← e9]
    exact hn 2 (by decide)
  · have e9 := Option.some.inj hk
    rw [← e9]
    exact hn 3 (by decide)
  · have e9 := Option.some.inj hk
    rw [← e9]
    exact hn 4 (by decide)
  · have e9 := Option.some.inj hk
    rw [← e9]
    exact hn 5 (by decide)
  · have e9 := Option.some.inj hk
    rw [← e9]
    exact hn 6 (by decide)
  · have e9 := Option.some.inj hk
    rw [← e9]
    exact hn 7 (by decide)
  · have e9 := Option.some.inj hk
    rw [← e9]
    exact hn 8 (by decide)
  · have e9 := Option.some.inj hk
    rw [← e9]
    exact hn 9 (by decide)
  · have e9 := Option.some.inj hk
    rw [← e9]
    exact hn 10 (by decide)
  · have e9 := Option.some.inj hk
    rw [← e9]
    exact hn 11 (by decide)
  · have e9 := Option.some.inj hk
    rw [← e9]
    exact hn 12 (by decide)
  · have e9 := Option.some.inj hk
    rw [← e9]
    exact hn 13 (by decide)
  · have e9 := Option.some.inj hk
    rw [← e9]
    exact hn 14 (by decide)
  · have e9 := Option.some.inj hk
    rw [← e9]
    exact hn 15 (by decide)
theorem th_RG0 {Y : th_Y} {ro : Nat → Nat} {thr : Int32} {S : th_S} {H : Heap} (h : th_RG Y ro thr S H) : ∃ fs : List Value, va_at Y.1 vwCl (ro 0, .inr (6, fs)) H := by
  obtain ⟨stp, efr, esz, etr, val, siz, tre, spa, pro, bes, isr, key, lev, kvi, ksz, krt, ala, fol, cts, hP, -⟩ := h
  exact ⟨_, hP 0 _ rfl⟩
theorem th_inro {ro : Nat → Nat} {q : Nat} (h : q ∈ [ro 0, ro 1, ro 2, ro 3, ro 4, ro 5, ro 6, ro 7, ro 8, ro 9, ro 10, ro 11, ro 12, ro 13, ro 14, ro 15]) : ∃ j, j < 16 ∧ ro j = q := by
  obtain ⟨k, hk⟩ := List.getElem?_of_mem h
  have hj : k < 16 := (List.getElem?_eq_some_iff.mp hk).1
  refine ⟨k, hj, ?_⟩
  rcases (show k = 0 ∨ k = 1 ∨ k = 2 ∨ k = 3 ∨ k = 4 ∨ k = 5 ∨ k = 6 ∨ k = 7 ∨ k = 8 ∨ k = 9 ∨ k = 10 ∨ k = 11 ∨ k = 12 ∨ k = 13 ∨ k = 14 ∨ k = 15 by omega) with rfl | rfl | rfl | rfl | rfl | rfl | rfl | rfl | rfl | rfl | rfl | rfl | rfl | rfl | rfl | rfl <;> exact Option.some.inj hk
theorem th_Lthr (l : Launch) {Y : th_Y} {ro : Nat → Nat} {thr : Int32} {S : th_S} {H : Heap} (h : th_RG Y ro thr S H) : th_P l Y yX6_thrown cX6_thrown 1 (some .int) (th_rm 0 0 0) [.ref (ro 0)] H (fun r9 => r9 = some (.int thr)) := by
  obtain ⟨stp, efr, esz, etr, val, siz, tre, spa, pro, bes, isr, key, lev, kvi, ksz, krt, ala, fol, cts, hP, -⟩ := h
  exact c_X6_thrown l Y H ro thr stp efr esz etr _ _ (hP.sub [0] rfl)
def th_sepA (z : Nat) (ro : Nat → Nat) (oo : Nat) : Nat → Prop := fun q => z ≤ q ∧ q ≠ oo ∧ ∀ j, j < 16 → ro j ≠ q
def th_LI (Y : th_Y) (z g o oo : Nat) (S : th_S) (H : Heap) : Prop := ∃ (ro : Nat → Nat) (thr : Int32) (f9 : Nat → Int64), ro 0 = o ∧ th_gJ ro 16 ∧ (∀ j, j < 16 → z ≤ ro j ∧ ro j ≠ oo) ∧ z ≤ oo ∧ th_RG Y ro thr S H ∧ va_at Y.1 vwCl (oo, .inl (Y.2 4, 1, .inr (.inl f9))) H ∧ th_GW Y g (th_sepA z ro oo) S H
theorem th_LAA {z oo nv : Nat} {ro ad : Nat → Nat} {H : Heap} (hz : z ≤ H.size) (hoo : oo < H.size) (hrl : ∀ j, j < 16 → ro j < H.size) (hAd : ∀ k, k < 16 + 3 * nv → th_sepA z ro oo (ad k)) : ∀ q, th_gA ad nv H.size q → th_sepA z ro oo q := by
  rintro q (⟨k, hk, rfl⟩ | hq)
  · exact hAd k hk
  · exact ⟨Nat.le_trans hz hq, by omega, fun j hj => by have := hrl j hj; omega⟩
theorem th_Lw {Y : th_Y} {z oo nv : Nat} {ro ad : Nat → Nat} {thr : Int32} {S S1 : th_S} {H H1 : Heap} {P : Nat → Prop} (hAA : ∀ q, th_gA ad nv H.size q → th_sepA z ro oo q) (hro : ∀ j, j < 16 → z ≤ ro j ∧ ro j ≠ oo) (hR : th_RG Y ro thr S H) (hg : th_GW Y (ad 0) (th_gA ad nv H.size) S1 H1) (hP : ∀ q, P q → th_gA ad nv H.size q ∨ q = oo) (hs : th_Same P H H1) : th_RG Y ro thr S H1 ∧ th_GW Y (ad 0) (th_sepA z ro oo) S1 H1 :=
  ⟨th_RGkeep hR (fun j hj h => (hP _ h).elim (fun h => (hAA _ h).2.2 j hj rfl) (hro j hj).2) hs, th_GWto hg hAA⟩
theorem th_Lm {Y : th_Y} {z g oo : Nat} {ro : Nat → Nat} {S1 : th_S} {H H1 : Heap} {f : Nat → Int64} (hro : ∀ j, j < 16 → z ≤ ro j ∧ ro j ≠ oo) (hO : va_at Y.1 vwCl (oo, .inl (Y.2 4, 1, .inr (.inl f))) H) (hg : th_GW Y g (th_sepA z ro oo) S1 H) (hs : th_Same (fun q => q ∈ [ro 0, ro 1, ro 2, ro 3, ro 4, ro 5, ro 6, ro 7, ro 8, ro 9, ro 10, ro 11, ro 12, ro 13, ro 14, ro 15]) H H1) : va_at Y.1 vwCl (oo, .inl (Y.2 4, 1, .inr (.inl f))) H1 ∧ th_GW Y g (th_sepA z ro oo) S1 H1 :=
  ⟨hO.kept (hs.2 _ hO.lt (fun h => by obtain ⟨j, hj, e⟩ := th_inro h; exact (hro j hj).2 e)), th_GWkeep hg (fun q hq h => by obtain ⟨j, hj, e⟩ := th_inro h; exact hq.2.2 j hj e) hs⟩
/-- the place of an exception is at most 3 -/
def th_K3 (r : th_R) : Prop := r.1 ≤ 3
theorem th_K3I {P : Prop} {a b : th_R} (ha : th_K3 a) (hb : th_K3 b) : th_K3 (th_if P a b) := by
  rcases Classical.em P with h | h
  · rw [th_ifT h]; exact ha
  · rw [th_ifF h]; exact hb
theorem th_nI0 {n : Nat} (h : n ≤ 3) : nI n = 0 ↔ n = 0 := (nI_eq (by omega) (by decide) : nI n = nI 0 ↔ n = 0)
theorem th_P1 {D : va_G} {cl : List vw_C} {H : Heap} {q : Nat × va_E} (h : va_at D cl q H) : va_P D cl [q] H := fun k x hx => by
  cases k with
  | zero => rw [List.getElem?_cons_zero] at hx; cases hx; exact h
  | succ k => rw [List.getElem?_cons_succ] at hx; simp at hx
section
variable {p : Program} {l : Launch} {e : Env} {R : Room} {s : State} {m : MethodId} {args : Array Value} {below : List Frame} {meth : Method} {c : Code} {H : Heap} {locs : List Loc} {cells slots : Nat} {Q : State → Prop}
variable {cc : ByteArray} {pc : Nat} {ls : Array Slot} {rest : List Value} {A : Nat → Prop} {H0 : Heap} {a : Nat} {Y : th_Y}
theorem th_sld (hexec : p.tables.exec = Jvm.exec) (hb : c.code = cc) {b L j : Nat} {xs : Nat → Int32} (hX : va_X b L xs s H0) (hbl : b < H0.size) (hbA : ¬ A b) (hS : va_S A H0 H locs) (hj : j < L) (hL : L ≤ 2560) (hdg : decode cc pc = .ok (.iaload, 1)) (kk : W p l e R s m args below meth c H locs cells slots Q (F0 m (pc + 1) ls (.int (xs j) :: rest))) : W p l e R s m args below meth c H locs cells slots Q (F0 m pc ls (.int (nI j) :: .ref b :: rest)) := by
  refine va_sld hexec hb hX hbl hbA hS (vp_in_nI hj (by omega)) hdg ?_
  rw [nI_clamp (by omega)]
  exact kk
theorem th_lal0 {f : Nat → Int64} (hexec : p.tables.exec = Jvm.exec) (hb : c.code = cc) (hK : th_k Y s) (hO : va_at Y.1 vwCl (a, .inl (Y.2 4, 1, .inr (.inl f))) H) (hdg : decode cc pc = .ok (.laload, 1)) (kk : W p l e R s m args below meth c H locs cells slots Q (F0 m (pc + 1) ls (.long (f 0) :: rest))) : W p l e R s m args below meth c H locs cells slots Q (F0 m pc ls (.int (nI 0) :: .ref a :: rest)) :=
  va_lald hexec hb hK (th_P1 hO) 0 4 rfl rfl (vp_in_nI (by decide) (by decide)) hdg kk
/-- the same longs compared -/
theorem th_lcmp0 {x y : Int64} (h : x = y) (hexec : p.tables.exec = Jvm.exec) (hb : c.code = cc) (hdg : decode cc pc = .ok (.lcmp, 1)) (kk : W p l e R s m args below meth c H locs cells slots Q (F0 m (pc + 1) ls (.int (nI 0) :: rest))) : W p l e R s m args below meth c H locs cells slots Q (F0 m pc ls (.long y :: .long x :: rest)) := by
  subst h
  refine W.lcmp hexec hb hdg ?_
  have e1 : lg_cmp x x = 0 := by simp [lg_cmp]
  rw [e1]
  exact kk
end

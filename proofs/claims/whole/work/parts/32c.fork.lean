theorem th_Dapp {A : Nat → Prop} {ws w1 : va_W} {z9 : Nat} (h : va_D A ws) (h1 : va_D A w1) (ho : ∀ (k : Nat) (q : Nat × va_E), ws[k]? = some q → q.1 < z9) (hn : ∀ (k : Nat) (q : Nat × va_E), w1[k]? = some q → z9 ≤ q.1) : va_D A (ws ++ w1) := by
  refine ⟨fun i j x y hi hj hxy => ?_, fun k q hk => ?_⟩
  · by_cases ci : i < ws.length
    · rw [List.getElem?_append_left ci] at hi
      by_cases cj : j < ws.length
      · rw [List.getElem?_append_left cj] at hj
        exact h.1 i j x y hi hj hxy
      · rw [List.getElem?_append_right (by omega)] at hj
        have k1 := ho _ _ hi
        have k2 := hn _ _ hj
        omega
    · rw [List.getElem?_append_right (by omega)] at hi
      by_cases cj : j < ws.length
      · rw [List.getElem?_append_left cj] at hj
        have k1 := ho _ _ hj
        have k2 := hn _ _ hi
        omega
      · rw [List.getElem?_append_right (by omega)] at hj
        have := h1.1 _ _ x y hi hj hxy
        omega
  · by_cases c : k < ws.length
    · rw [List.getElem?_append_left c] at hk
      exact h.2 _ _ hk
    · rw [List.getElem?_append_right (by omega)] at hk
      exact h1.2 _ _ hk
theorem th_Same.fresh {B : Nat → Prop} {H0 H H1 : Heap} (h : th_Same th_no H0 H) (h' : th_Same B H H1) (hB : ∀ q, B q → H0.size ≤ q) : th_Same th_no H0 H1 := ⟨Nat.le_trans h.1 h'.1, fun q h1 h2 => (h'.2 q (Nat.lt_of_lt_of_le h1 h.1) (fun z => by have := hB q z; omega)).trans (h.2 q h1 h2)⟩
section
variable {p : Program} {l : Launch} {e : Env} {R : Room} {s : State} {m : MethodId} {args : Array Value} {below : List Frame} {meth : Method} {H : Heap} {locs : List Loc} {cells slots : Nat} {Q : State → Prop}
variable {cc : ByteArray} {pc : Nat} {ls : Array Slot} {rest : List Value} {Y : th_Y} {A : Nat → Prop} {H0 : Heap}
theorem th_newS {c0 : Code} (hexec : p.tables.exec = Jvm.exec) (hb : c0.code = cc) {own C : String} {T : u_T} {N ci index : Nat} (hts : ∀ w ∈ th_G, w.before args s = true) (hin : ∀ w ∈ u_ws C T N, w ∈ th_G) (ty : Nat → FieldType) (hty : ∀ k, k < N → parseFieldDescriptor (T k).2.2.1 = some (ty k)) (hown : s.vm.findClass own = some m.cls) (hcl : (Cond.classLink own index C).before args s = true) (hinst : (Cond.instantiable C N).before args s = true) (hini : (Cond.initialized C).before args s = true)
    (hK : th_k Y s) (hS : va_S A H0 H locs) (hc : vwCl[ci]? = some (C, T, N)) {fs : List Value} (hfs : ∀ j, j < N → defaultValue (ty j) = vp_V fs j) (hcells : cells + 1 ≤ R.cells) (hslots : slots + N ≤ R.slots) (hdg : decode cc pc = .ok (.new index, 3))
    (kk : ∀ (H1 : Heap), va_P Y.1 vwCl [(H.size, .inr (ci, fs))] H1 → th_Same th_no H H1 → va_S A H0 H1 locs →
      W p l e R s m args below meth c0 H1 locs (cells + 1) (slots + N) Q (F0 m (pc + 3) ls (.ref H.size :: rest))) : W p l e R s m args below meth c0 H locs cells slots Q (F0 m pc ls rest) := by
  have hKn := hK.1 ci _ hc
  refine W.newcK hexec hb hown hcl hinst hini rfl hdg hcells hslots hKn.2.1 rfl fun H1 kC hkC e1 z1 o1 => ?_
  refine kk H1 (fun k x hx => ?_) ⟨by omega, fun q hq _ => o1 q hq⟩ ⟨Nat.le_trans hS.1 (by omega), fun x h1 h2 => (o1 x (Nat.lt_of_lt_of_le h1 hS.1)).trans (hS.2.1 x h1 h2), hS.2.2⟩
  have hz : k < 1 := (List.getElem?_eq_some_iff.mp hx).1
  rw [show k = 0 by omega] at hx
  cases hx
  exact ⟨_, hc, (u_born ty hts hin hKn hkC e1 hty).to hfs⟩
end
/-- a view more -/
theorem th_GWF {Y : th_Y} {ad : Nat → Nat} {S : th_S} {Vx B : Nat → Nat → Int32} {dsx kvx ks : Nat → Int32} {wy : Nat → Nat} {wz : Nat → Nat → Int32} {H0 H : Heap} {o a b i n : Nat} {f g : Nat → Int32} {locs : List Loc}
    (hG : th_gP Y ad (th_gS Y ad S.1 S.2.1 Vx B S.2.2.2.1 dsx wy wz kvx ks S.2.2.2.2.2.2.1 S.2.2.2.2.2.2.2) H0) (hJ : th_gJ ad (16 + 3 * S.1)) (hv : th_Iv S Vx B dsx kvx ks) (h3 : S.1 < 3) (hi : i < S.1) (hn : n ≤ S.2.1 i) (hS : va_S (fun q => q = ad 0 ∨ q = ad 1 ∨ H0.size ≤ q) H0 H locs)
    (hP : va_P Y.1 vwCl [(ad 0, .inr (5, [.ref (ad 1), .ref (ad 2), .ref (ad 3), .ref (ad 9), .int (nI (S.1 + 1))])), (ad 1, .inl (Y.2 2, 3, .inr (.inr (.inr (.inr (va_up (fun i => if i < S.1 then some (ad (16 + 3 * i)) else none) S.1 (some o))))))), (o, .inr (2, [.int (nI n), .ref a, .ref b])), (a, .inl (Y.2 0, 100, .inl f)), (b, .inl (Y.2 0, 256, .inl g))] H)
    (hD : va_D (fun q => q = ad 0 ∨ q = ad 1 ∨ H0.size ≤ q) [(ad 0, .inr (5, [.ref (ad 1), .ref (ad 2), .ref (ad 3), .ref (ad 9), .int (nI (S.1 + 1))])), (ad 1, .inl (Y.2 2, 3, .inr (.inr (.inr (.inr (va_up (fun i => if i < S.1 then some (ad (16 + 3 * i)) else none) S.1 (some o))))))), (o, .inr (2, [.int (nI n), .ref a, .ref b])), (a, .inl (Y.2 0, 100, .inl f)), (b, .inl (Y.2 0, 256, .inl g))])
    (ho : H0.size ≤ o) (ha : H0.size ≤ a) (hb : H0.size ≤ b) (hB : th_BI f g n) (hf : ∀ j, j < n → f j = S.2.2.1 i j) : th_GW Y (ad 0) (th_gA ad S.1 H0.size) (th_sF S i n) H := by
  obtain ⟨ad', e, eo, ea, eb⟩ : ∃ ad' : Nat → Nat, (∀ k, k < 16 + 3 * S.1 → ad' k = ad k) ∧ ad' (16 + 3 * S.1) = o ∧ ad' (16 + 3 * S.1 + 1) = a ∧ ad' (16 + 3 * S.1 + 2) = b :=
    ⟨fun k => if k < 16 + 3 * S.1 then ad k else if k = 16 + 3 * S.1 then o else if k = 16 + 3 * S.1 + 1 then a else b, fun k hk => if_pos hk, (if_neg (by omega)).trans (if_pos rfl), (if_neg (by omega)).trans ((if_neg (by omega)).trans (if_pos rfl)), (if_neg (by omega)).trans ((if_neg (by omega)).trans (if_neg (by omega)))⟩
  have old : ∀ (k : Nat) (x : va_E), 2 ≤ k → k < 16 + 3 * S.1 → va_at Y.1 vwCl (ad k, x) H0 → va_at Y.1 vwCl (ad' k, x) H := fun k x h2 hk hx => by
    rw [e k hk]
    refine hx.kept (hS.2.1 (ad k) hx.lt (fun z => ?_))
    rcases z with z | z | z
    · have := hJ k 0 hk (by omega) z; omega
    · have := hJ k 1 hk (by omega) z; omega
    · have : ad k < H0.size := hx.lt
      omega
  have same : ∀ k, 3 ≤ k → k < 16 + 3 * S.1 → th_gS Y ad' (S.1 + 1) (va_up S.2.1 S.1 n) (va_up Vx S.1 f) (va_up B S.1 g) S.2.2.2.1 dsx wy wz kvx ks S.2.2.2.2.2.2.1 S.2.2.2.2.2.2.2 k = th_gS Y ad S.1 S.2.1 Vx B S.2.2.2.1 dsx wy wz kvx ks S.2.2.2.2.2.2.1 S.2.2.2.2.2.2.2 k := by
    intro k h3k hk
    rcases Nat.lt_or_ge k 12 with c | c
    · rcases (show k = 3 ∨ k = 4 ∨ k = 5 ∨ k = 6 ∨ k = 7 ∨ k = 8 ∨ k = 9 ∨ k = 10 ∨ k = 11 by omega) with rfl | rfl | rfl | rfl | rfl | rfl | rfl | rfl | rfl
      · show (some (.inr (0, [.int (nI S.2.2.2.1), .ref (ad' 4), .ref (ad' 5)])) : Option va_E) = some (.inr (0, [.int (nI S.2.2.2.1), .ref (ad 4), .ref (ad 5)]))
        rw [e 4 (by omega), e 5 (by omega)]
      · rfl
      · show (some (.inr (4, [.int (nI (wy 0)), .ref (ad' 6), .ref (ad' 7), .ref (ad' 8), .int (nI (wy 1)), .int (nI (wy 2)), .int (nI (wy 3))])) : Option va_E) = some (.inr (4, [.int (nI (wy 0)), .ref (ad 6), .ref (ad 7), .ref (ad 8), .int (nI (wy 1)), .int (nI (wy 2)), .int (nI (wy 3))]))
        rw [e 6 (by omega), e 7 (by omega), e 8 (by omega)]
      · rfl
      · rfl
      · rfl
      · show (some (.inr (1, [.ref (ad' 10), .ref (ad' 11)])) : Option va_E) = some (.inr (1, [.ref (ad 10), .ref (ad 11)]))
        rw [e 10 (by omega), e 11 (by omega)]
      · rfl
      · rfl
    · rcases Nat.lt_or_ge k 16 with c2 | c2
      · obtain ⟨w, rfl, hw⟩ : ∃ w, k = 12 + w ∧ w < 4 := ⟨k - 12, by omega, by omega⟩
        rw [th_gS12 hw, th_gS12 hw]
        unfold th_g12
        rcases (hv.2.2.2.2.2.2 w hw).1 with ⟨h1, -⟩ | ⟨j, k9, h1, h2, -⟩
        · rw [h1]; rfl
        · rw [h1]
          show (some (.inr (3, [.ref (ad' (16 + 3 * j)), _, _, _, _, _])) : Option va_E) = some (.inr (3, [.ref (ad (16 + 3 * j)), _, _, _, _, _]))
          rw [e (16 + 3 * j) (by omega)]
      · obtain ⟨v, r, rfl, hr9, hv9⟩ : ∃ v r, k = 16 + 3 * v + r ∧ r < 3 ∧ v < S.1 := ⟨(k - 16) / 3, (k - 16) % 3, by omega, by omega, by omega⟩
        rw [th_gSv (by omega) hr9, th_gSv hv9 hr9, va_up_ne _ _ (by omega), va_up_ne _ _ (by omega), va_up_ne _ _ (by omega)]
        rcases (show r = 0 ∨ r = 1 ∨ r = 2 by omega) with rfl | rfl | rfl
        · show (some (.inr (2, [.int (nI (S.2.1 v)), .ref (ad' (16 + 3 * v + 1)), .ref (ad' (16 + 3 * v + 2))])) : Option va_E) = some (.inr (2, [.int (nI (S.2.1 v)), .ref (ad (16 + 3 * v + 1)), .ref (ad (16 + 3 * v + 2))]))
          rw [e (16 + 3 * v + 1) (by omega), e (16 + 3 * v + 2) (by omega)]
        · rfl
        · rfl
  have key : ∀ k : Nat, 16 + 3 * S.1 ≤ k → k < 16 + 3 * (S.1 + 1) → ∃ (r : Nat) (x : va_E), k = 16 + 3 * S.1 + r ∧ r < 3 ∧ ([(ad 0, .inr (5, [.ref (ad 1), .ref (ad 2), .ref (ad 3), .ref (ad 9), .int (nI (S.1 + 1))])), (ad 1, .inl (Y.2 2, 3, .inr (.inr (.inr (.inr (va_up (fun i => if i < S.1 then some (ad (16 + 3 * i)) else none) S.1 (some o))))))), (o, .inr (2, [.int (nI n), .ref a, .ref b])), (a, .inl (Y.2 0, 100, .inl f)), (b, .inl (Y.2 0, 256, .inl g))] : va_W)[2 + r]? = some (ad' k, x) ∧ th_gS Y ad' (S.1 + 1) (va_up S.2.1 S.1 n) (va_up Vx S.1 f) (va_up B S.1 g) S.2.2.2.1 dsx wy wz kvx ks S.2.2.2.2.2.2.1 S.2.2.2.2.2.2.2 k = some x := by
    intro k h1 h2
    obtain ⟨r, rfl, hr9⟩ : ∃ r, k = 16 + 3 * S.1 + r ∧ r < 3 := ⟨k - (16 + 3 * S.1), by omega, by omega⟩
    rcases (show r = 0 ∨ r = 1 ∨ r = 2 by omega) with rfl | rfl | rfl
    · refine ⟨0, .inr (2, [.int (nI n), .ref a, .ref b]), rfl, by omega, by rw [show ad' (16 + 3 * S.1 + 0) = o from eo]; rfl, ?_⟩
      rw [th_gSv (by omega) (by omega), va_up_self]
      show (some (.inr (2, [.int (nI n), .ref (ad' (16 + 3 * S.1 + 1)), .ref (ad' (16 + 3 * S.1 + 2))])) : Option va_E) = _
      rw [ea, eb]
    · refine ⟨1, .inl (Y.2 0, 100, .inl f), rfl, by omega, by rw [ea]; rfl, ?_⟩
      rw [th_gSv (by omega) (by omega), va_up_self, va_up_self]
      rfl
    · refine ⟨2, .inl (Y.2 0, 256, .inl g), rfl, by omega, by rw [eb]; rfl, ?_⟩
      rw [th_gSv (by omega) (by omega), va_up_self, va_up_self, va_up_self]
      rfl
  have new : ∀ k : Nat, 16 + 3 * S.1 ≤ k → k < 16 + 3 * (S.1 + 1) → H0.size ≤ ad' k := by
    intro k h1 h2
    rcases (show k = 16 + 3 * S.1 ∨ k = 16 + 3 * S.1 + 1 ∨ k = 16 + 3 * S.1 + 2 by omega) with rfl | rfl | rfl
    · rw [eo]; exact ho
    · rw [ea]; exact ha
    · rw [eb]; exact hb
  refine ⟨ad', va_up Vx S.1 f, va_up B S.1 g, dsx, kvx, ks, wy, wz, e 0 (by omega), fun k hk => ?_, fun k x hx => ?_, fun i j hi hj hij => ?_, ?_⟩
  · have hk : k < 16 + 3 * (S.1 + 1) := hk
    by_cases c : k < 16 + 3 * S.1
    · exact Or.inl ⟨k, c, (e k c).symm⟩
    · exact Or.inr (new k (by omega) hk)
  · have hk : k < 16 + 3 * (S.1 + 1) := th_gdomS hx
    by_cases c : k < 16 + 3 * S.1
    · rcases (show k = 0 ∨ k = 1 ∨ k = 2 ∨ 3 ≤ k by omega) with rfl | rfl | rfl | c3
      · have h9 : some _ = some x := hx
        cases h9
        show va_at Y.1 vwCl (ad' 0, .inr (5, [.ref (ad' 1), .ref (ad' 2), .ref (ad' 3), .ref (ad' 9), .int (nI (S.1 + 1))])) H
        rw [e 0 c, e 1 (by omega), e 2 (by omega), e 3 (by omega), e 9 (by omega)]
        exact hP 0 _ rfl
      · have h9 : some _ = some x := hx
        cases h9
        show va_at Y.1 vwCl (ad' 1, .inl (Y.2 2, 3, .inr (.inr (.inr (.inr (fun i => if i < S.1 + 1 then some (ad' (16 + 3 * i)) else none)))))) H
        rw [e 1 c]
        refine th_atq (hP 1 _ rfl) (fun j hj => ?_)
        by_cases z : j = S.1
        · subst z
          rw [va_up_self, if_pos (by omega), eo]
        · rw [va_up_ne _ _ z]
          by_cases z2 : j < S.1
          · rw [if_pos z2, if_pos (by omega), e _ (by omega)]
          · rw [if_neg z2, if_neg (by omega)]
      · have h9 : some _ = some x := hx
        cases h9
        refine old 2 _ (by omega) c ?_
        refine th_atq (hG 2 _ rfl) (fun j hj => ?_)
        rw [e (12 + j) (by omega)]
      · exact old k x (by omega) c (hG k x ((same k c3 c).symm.trans hx))
    · obtain ⟨r, x9, -, -, h1, h2⟩ := key k (by omega) hk
      have h9 : some x9 = some x := h2.symm.trans hx
      cases h9
      exact hP _ _ h1
  · have hi : i < 16 + 3 * (S.1 + 1) := hi
    have hj : j < 16 + 3 * (S.1 + 1) := hj
    by_cases ci : i < 16 + 3 * S.1
    · by_cases cj : j < 16 + 3 * S.1
      · rw [e i ci, e j cj] at hij
        exact hJ i j ci cj hij
      · have h1 := new j (by omega) hj
        have h2 := th_glt hG ci
        rw [e i ci] at hij
        omega
    · by_cases cj : j < 16 + 3 * S.1
      · have h1 := new i (by omega) hi
        have h2 := th_glt hG cj
        rw [e j cj] at hij
        omega
      · obtain ⟨r, x9, z1, -, z2, -⟩ := key i (by omega) hi
        obtain ⟨r', y9, z3, -, z4, -⟩ := key j (by omega) hj
        have := hD.1 _ _ _ _ z2 z4 hij
        omega
  · obtain ⟨v1, v2, v3, v4, v5, v6, v7⟩ := hv
    refine ⟨⟨Nat.le_add_left _ _, by show S.1 + 1 ≤ 3; omega⟩, fun v hv9 => ?_, v3, v4, v5, v6, fun w hw => ?_⟩
    · have hv9 : v < S.1 + 1 := hv9
      show va_up S.2.1 S.1 n v ≤ 100 ∧ th_BI (va_up Vx S.1 f v) (va_up B S.1 g v) (va_up S.2.1 S.1 n v) ∧ ∀ j, j < va_up S.2.1 S.1 n v → va_up Vx S.1 f v j = va_up S.2.2.1 S.1 (S.2.2.1 i) v j ∧ th_ir (va_up S.2.2.1 S.1 (S.2.2.1 i) v j) 0 65536
      by_cases z : v = S.1
      · subst z
        simp only [va_up_self]
        refine ⟨Nat.le_trans hn (v2 i hi).1, hB, fun j hj => ⟨hf j hj, ((v2 i hi).2.2 j (by omega)).2⟩⟩
      · simp only [va_up_ne _ _ z]
        exact v2 v (by omega)
    · obtain ⟨h1, h2⟩ := v7 w hw
      refine ⟨?_, h2⟩
      rcases h1 with h1 | ⟨j, k, e1, e2, e3, e4⟩
      · exact Or.inl h1
      · refine Or.inr ⟨j, k, e1, Nat.lt_succ_of_lt e2, ?_, e4⟩
        show k ≤ va_up S.2.1 S.1 n j
        rw [va_up_ne _ _ (by omega)]
        exact e3
theorem th_nd01 : th_nd [0, 1] := by
  refine ⟨?_, ?_, trivial⟩ <;> intro b hb9 <;> simp only [List.mem_cons, List.not_mem_nil, or_false] at hb9 <;> omega
theorem th_in2 {P : Nat → Prop} {x y : Nat} {ex ey : va_E} {k : Nat} {q : Nat × va_E} (h : ([(x, ex), (y, ey)] : va_W)[k]? = some q) : q.1 = x ∨ q.1 = y ∨ P q.1 := by
  have l1 := (List.getElem?_eq_some_iff.mp h).1
  simp only [List.length_cons, List.length_nil] at l1
  rcases (show k = 0 ∨ k = 1 by omega) with rfl | rfl <;> cases h
  · exact Or.inl rfl
  · exact Or.inr (Or.inl rfl)
theorem th_lt2 {x y z9 : Nat} {ex ey : va_E} {k : Nat} {q : Nat × va_E} (hx : x < z9) (hy : y < z9) (h : ([(x, ex), (y, ey)] : va_W)[k]? = some q) : q.1 < z9 := by
  rcases th_in2 (P := fun _ => False) h with e | e | e
  · rw [e]; exact hx
  · rw [e]; exact hy
  · exact e.elim
theorem th_ge3 {x y w z9 : Nat} {ex ey ew : va_E} {k : Nat} {q : Nat × va_E} (hx : z9 ≤ x) (hy : z9 ≤ y) (hw : z9 ≤ w) (h : ([(x, ex), (y, ey), (w, ew)] : va_W)[k]? = some q) : z9 ≤ q.1 := by
  have l1 := (List.getElem?_eq_some_iff.mp h).1
  simp only [List.length_cons, List.length_nil] at l1
  rcases (show k = 0 ∨ k = 1 ∨ k = 2 by omega) with rfl | rfl | rfl <;> cases h
  · exact hx
  · exact hy
  · exact hw

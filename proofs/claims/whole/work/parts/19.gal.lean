/-! the gallery's cells, by their roles -/
theorem th_up_s {α : Type} (f : Nat → α) (k : Nat) (v : α) : va_up f k v k = v := va_up_self f k v
def th_g0 (Y : th_Y) (ad : Nat → Nat) (nv : Nat) : Nat → Option va_E
  | 0 => some (.inr (5, [.ref (ad 1), .ref (ad 2), .ref (ad 3), .ref (ad 9), .int (nI nv)]))
  | 1 => some (.inl (Y.2 2, 3, .inr (.inr (.inr (.inr (fun i => if i < nv then some (ad (16 + 3 * i)) else none))))))
  | _ => some (.inl (Y.2 3, 4, .inr (.inr (.inr (.inr (fun i => some (ad (12 + i))))))))
def th_g3 (Y : th_Y) (ad : Nat → Nat) (cnt : Nat) (ds : Nat → Int32) (wy : Nat → Nat) (wz : Nat → Nat → Int32) : Nat → Option va_E
  | 0 => some (.inr (0, [.int (nI cnt), .ref (ad 4), .ref (ad 5)]))
  | 1 => some (.inl (Y.2 0, 12, .inl ds))
  | 2 => some (.inr (4, [.int (nI (wy 0)), .ref (ad 6), .ref (ad 7), .ref (ad 8), .int (nI (wy 1)), .int (nI (wy 2)), .int (nI (wy 3))]))
  | 3 => some (.inl (Y.2 0, 12, .inl (wz 0)))
  | 4 => some (.inl (Y.2 0, 12, .inl (wz 1)))
  | _ => some (.inl (Y.2 1, 12, .inl (wz 2)))
def th_g9 (Y : th_Y) (ad : Nat → Nat) (kv ks : Nat → Int32) : Nat → Option va_E
  | 0 => some (.inr (1, [.ref (ad 10), .ref (ad 11)]))
  | 1 => some (.inl (Y.2 0, 64, .inl kv))
  | _ => some (.inl (Y.2 0, 128, .inl ks))
def th_g12 (ad : Nat → Nat) (K : Option Nat) (W : Nat → Int32) : va_E := .inr (3, [va_rf (K.map (fun j => ad (16 + 3 * j))), .int (W 0), .int (W 1), .int (W 2), .int (W 3), .int (W 4)])
def th_g16 (Y : th_Y) (ad : Nat → Nat) (i n : Nat) (f g : Nat → Int32) : Nat → Option va_E
  | 0 => some (.inr (2, [.int (nI n), .ref (ad (16 + 3 * i + 1)), .ref (ad (16 + 3 * i + 2))]))
  | 1 => some (.inl (Y.2 0, 100, .inl f))
  | _ => some (.inl (Y.2 0, 256, .inl g))
def th_gS (Y : th_Y) (ad : Nat → Nat) (nv : Nat) (sz : Nat → Nat) (V B : Nat → Nat → Int32) (cnt : Nat) (ds : Nat → Int32) (wy : Nat → Nat) (wz : Nat → Nat → Int32) (kv ks : Nat → Int32) (K : Nat → Option Nat) (W : Nat → Nat → Int32) (k : Nat) : Option va_E :=
  if k < 3 then th_g0 Y ad nv k else if k < 9 then th_g3 Y ad cnt ds wy wz (k - 3) else if k < 12 then th_g9 Y ad kv ks (k - 9) else if k < 16 then some (th_g12 ad (K (k - 12)) (W (k - 12))) else if (k - 16) / 3 < nv then th_g16 Y ad ((k - 16) / 3) (sz ((k - 16) / 3)) (V ((k - 16) / 3)) (B ((k - 16) / 3)) ((k - 16) % 3) else none
def th_gP (Y : th_Y) (ad : Nat → Nat) (S : Nat → Option va_E) (H : Heap) : Prop := ∀ (k : Nat) (e : va_E), S k = some e → va_at Y.1 vwCl (ad k, e) H
def th_gJ (ad : Nat → Nat) (n : Nat) : Prop := ∀ i j, i < n → j < n → ad i = ad j → i = j
/-- the cells of a gallery, or new ones -/
def th_gA (ad : Nat → Nat) (nv z : Nat) : Nat → Prop := fun q => (∃ k, k < 16 + 3 * nv ∧ ad k = q) ∨ z ≤ q
theorem th_pc {Y : th_Y} {ad : Nat → Nat} {S : Nat → Option va_E} {H : Heap} {k : Nat} {e : va_E} {ws : va_W} (h : th_gP Y ad S H) (he : S k = some e) (hr : va_P Y.1 vwCl ws H) : va_P Y.1 vwCl ((ad k, e) :: ws) H := by
  intro j q hq
  cases j with
  | zero =>
    rw [List.getElem?_cons_zero] at hq
    cases hq
    exact h k e he
  | succ j => exact hr j q (by rw [List.getElem?_cons_succ] at hq; exact hq)
theorem th_p0 {Y : th_Y} {H : Heap} : va_P Y.1 vwCl [] H := fun k q h => by simp at h
section
variable {Y : th_Y} {ad : Nat → Nat} {nv cnt : Nat} {sz : Nat → Nat} {V B : Nat → Nat → Int32} {ds kv ks : Nat → Int32} {wy : Nat → Nat} {wz : Nat → Nat → Int32} {K : Nat → Option Nat} {W : Nat → Nat → Int32} {H H1 : Heap}
theorem th_gS12 {w : Nat} (hw : w < 4) : th_gS Y ad nv sz V B cnt ds wy wz kv ks K W (12 + w) = some (th_g12 ad (K w) (W w)) := by
  unfold th_gS
  rw [if_neg (by omega), if_neg (by omega), if_neg (by omega), if_pos (by omega), show 12 + w - 12 = w by omega]
theorem th_gS16 {k : Nat} (h : 16 ≤ k) : th_gS Y ad nv sz V B cnt ds wy wz kv ks K W k = if (k - 16) / 3 < nv then th_g16 Y ad ((k - 16) / 3) (sz ((k - 16) / 3)) (V ((k - 16) / 3)) (B ((k - 16) / 3)) ((k - 16) % 3) else none := by
  unfold th_gS
  rw [if_neg (by omega), if_neg (by omega), if_neg (by omega), if_neg (by omega)]
theorem th_gSv {i j : Nat} (hi : i < nv) (hj : j < 3) : th_gS Y ad nv sz V B cnt ds wy wz kv ks K W (16 + 3 * i + j) = th_g16 Y ad i (sz i) (V i) (B i) j := by
  rw [th_gS16 (by omega), show (16 + 3 * i + j - 16) / 3 = i by omega, show (16 + 3 * i + j - 16) % 3 = j by omega, if_pos hi]
theorem th_gdom {k : Nat} (h : th_gS Y ad nv sz V B cnt ds wy wz kv ks K W k ≠ none) : k < 16 + 3 * nv := by
  rcases Nat.lt_or_ge k 16 with c | c
  · omega
  · rw [th_gS16 c] at h
    by_cases d : (k - 16) / 3 < nv
    · omega
    · rw [if_neg d] at h; exact absurd rfl h
theorem th_gV (hG : th_gP Y ad (th_gS Y ad nv sz V B cnt ds wy wz kv ks K W) H) {i : Nat} (hi : i < nv) : va_P Y.1 vwCl [(ad (16 + 3 * i), .inr (2, [.int (nI (sz i)), .ref (ad (16 + 3 * i + 1)), .ref (ad (16 + 3 * i + 2))])), (ad (16 + 3 * i + 1), .inl (Y.2 0, 100, .inl (V i))), (ad (16 + 3 * i + 2), .inl (Y.2 0, 256, .inl (B i)))] H :=
  th_pc hG (th_gSv (j := 0) hi (by omega)) (th_pc hG (th_gSv (j := 1) hi (by omega)) (th_pc hG (th_gSv (j := 2) hi (by omega)) th_p0))
theorem th_gDk (hG : th_gP Y ad (th_gS Y ad nv sz V B cnt ds wy wz kv ks K W) H) : va_P Y.1 vwCl [(ad 3, .inr (0, [.int (nI cnt), .ref (ad 4), .ref (ad 5)])), (ad 4, .inl (Y.2 0, 12, .inl ds)), (ad 5, .inr (4, [.int (nI (wy 0)), .ref (ad 6), .ref (ad 7), .ref (ad 8), .int (nI (wy 1)), .int (nI (wy 2)), .int (nI (wy 3))])), (ad 6, .inl (Y.2 0, 12, .inl (wz 0))), (ad 7, .inl (Y.2 0, 12, .inl (wz 1))), (ad 8, .inl (Y.2 1, 12, .inl (wz 2)))] H :=
  th_pc hG (k := 3) rfl (th_pc hG (k := 4) rfl (th_pc hG (k := 5) rfl (th_pc hG (k := 6) rfl (th_pc hG (k := 7) rfl (th_pc hG (k := 8) rfl th_p0)))))
theorem th_gMp (hG : th_gP Y ad (th_gS Y ad nv sz V B cnt ds wy wz kv ks K W) H) : va_P Y.1 vwCl [(ad 9, .inr (1, [.ref (ad 10), .ref (ad 11)])), (ad 10, .inl (Y.2 0, 64, .inl kv)), (ad 11, .inl (Y.2 0, 128, .inl ks))] H :=
  th_pc hG (k := 9) rfl (th_pc hG (k := 10) rfl (th_pc hG (k := 11) rfl th_p0))
theorem th_gO (hG : th_gP Y ad (th_gS Y ad nv sz V B cnt ds wy wz kv ks K W) H) : va_P Y.1 vwCl [(ad 0, .inr (5, [.ref (ad 1), .ref (ad 2), .ref (ad 3), .ref (ad 9), .int (nI nv)])), (ad 1, .inl (Y.2 2, 3, .inr (.inr (.inr (.inr (fun i => if i < nv then some (ad (16 + 3 * i)) else none)))))), (ad 2, .inl (Y.2 3, 4, .inr (.inr (.inr (.inr (fun i => some (ad (12 + i))))))))] H :=
  th_pc hG (k := 0) rfl (th_pc hG (k := 1) rfl (th_pc hG (k := 2) rfl th_p0))
theorem th_gW (hG : th_gP Y ad (th_gS Y ad nv sz V B cnt ds wy wz kv ks K W) H) {w : Nat} (hw : w < 4) : va_P Y.1 vwCl [(ad (12 + w), .inr (3, [va_rf ((K w).map (fun j => ad (16 + 3 * j))), .int (W w 0), .int (W w 1), .int (W w 2), .int (W w 3), .int (W w 4)]))] H :=
  th_pc hG (th_gS12 hw) th_p0
def th_nd : List Nat → Prop
  | [] => True
  | a :: l => (∀ b ∈ l, a ≠ b) ∧ th_nd l
theorem th_nd_inj : ∀ (l : List Nat), th_nd l → ∀ (i j a : Nat), l[i]? = some a → l[j]? = some a → i = j
  | [], _, i, j, a, h, _ => by simp at h
  | b :: l, hn, i, j, a, h1, h2 => by
    cases i with
    | zero =>
      cases j with
      | zero => rfl
      | succ j =>
        rw [List.getElem?_cons_zero] at h1
        rw [List.getElem?_cons_succ] at h2
        cases h1
        exact absurd rfl (hn.1 _ (List.mem_of_getElem? h2))
    | succ i =>
      rw [List.getElem?_cons_succ] at h1
      cases j with
      | zero =>
        rw [List.getElem?_cons_zero] at h2
        cases h2
        exact absurd rfl (hn.1 _ (List.mem_of_getElem? h1))
      | succ j =>
        rw [List.getElem?_cons_succ] at h2
        rw [th_nd_inj l hn.2 i j a h1 h2]
/-- cells by their roles lie apart -/
theorem th_gD {n : Nat} (hJ : th_gJ ad n) (ks9 : List Nat) {ws : va_W} (hk : ∀ k ∈ ks9, k < n) (hn : th_nd ks9) (hws : ws.map (fun z => z.1) = ks9.map ad) : va_D (fun _ => True) ws := by
  refine ⟨fun i j p q hi hj hpq => ?_, fun _ _ _ => trivial⟩
  have h1 : (ks9.map ad)[i]? = some p.1 := by rw [← hws, List.getElem?_map, hi]; rfl
  have h2 : (ks9.map ad)[j]? = some q.1 := by rw [← hws, List.getElem?_map, hj]; rfl
  rw [List.getElem?_map] at h1 h2
  cases e1 : ks9[i]? with
  | none => rw [e1] at h1; cases h1
  | some a =>
    cases e2 : ks9[j]? with
    | none => rw [e2] at h2; cases h2
    | some b =>
      rw [e1] at h1
      rw [e2] at h2
      have h3 : ad a = ad b := (Option.some.inj h1).trans (hpq.trans (Option.some.inj h2).symm)
      have h4 := hJ a b (hk a (List.mem_of_getElem? e1)) (hk b (List.mem_of_getElem? e2)) h3
      subst h4
      exact th_nd_inj ks9 hn i j a e1 e2
/-- behind a call that changed the roles L -/
theorem th_gjoin {S S' : Nat → Option va_E} {n : Nat} (L : List Nat) {w1 : va_W} (hP : th_gP Y ad S H) (hJ : th_gJ ad n) (hdom : ∀ k, S k ≠ none → k < n) (hL : ∀ k ∈ L, k < n) (hs : th_Same (fun q => q ∈ L.map ad) H H1) (hw : va_P Y.1 vwCl w1 H1) (hn : ∀ k ∈ L, ∀ e, S' k = some e → (ad k, e) ∈ w1) (ho : ∀ k, k ∉ L → S' k = S k) : th_gP Y ad S' H1 := by
  intro k e he
  by_cases hk : k ∈ L
  · obtain ⟨i, hi⟩ := List.getElem?_of_mem (hn k hk e he)
    exact hw i _ hi
  · rw [ho k hk] at he
    have h1 := hP k e he
    refine h1.kept (hs.2 _ h1.lt (fun hm => ?_))
    obtain ⟨j, hj, hjk⟩ := List.mem_map.mp hm
    have h2 := hJ j k (hL j hj) (hdom k (by rw [he]; exact fun z => nomatch z)) hjk
    subst h2
    exact hk hj
theorem th_gkeep {S : Nat → Option va_E} (hP : th_gP Y ad S H) (hs : th_Same th_no H H1) : th_gP Y ad S H1 := fun k e he => (hP k e he).kept (hs.2 _ (hP k e he).lt (fun z => z))
theorem th_glt {k : Nat} (hG : th_gP Y ad (th_gS Y ad nv sz V B cnt ds wy wz kv ks K W) H) (hk : k < 16 + 3 * nv) : ad k < H.size := by
  have h : ∃ e, th_gS Y ad nv sz V B cnt ds wy wz kv ks K W k = some e := by
    rcases Nat.lt_or_ge k 16 with c | c
    · unfold th_gS
      by_cases c1 : k < 3
      · rw [if_pos c1]; rcases (show k = 0 ∨ k = 1 ∨ k = 2 by omega) with rfl | rfl | rfl <;> exact ⟨_, rfl⟩
      · rw [if_neg c1]
        by_cases c2 : k < 9
        · rw [if_pos c2]; rcases (show k = 3 ∨ k = 4 ∨ k = 5 ∨ k = 6 ∨ k = 7 ∨ k = 8 by omega) with rfl | rfl | rfl | rfl | rfl | rfl <;> exact ⟨_, rfl⟩
        · rw [if_neg c2]
          by_cases c3 : k < 12
          · rw [if_pos c3]; rcases (show k = 9 ∨ k = 10 ∨ k = 11 by omega) with rfl | rfl | rfl <;> exact ⟨_, rfl⟩
          · rw [if_neg c3, if_pos c]; exact ⟨_, rfl⟩
    · rw [th_gS16 c, if_pos (by omega)]
      rcases (show (k - 16) % 3 = 0 ∨ (k - 16) % 3 = 1 ∨ (k - 16) % 3 = 2 by omega) with z | z | z <;> rw [z] <;> exact ⟨_, rfl⟩
  obtain ⟨e, he⟩ := h
  exact (hG k e he).lt
end

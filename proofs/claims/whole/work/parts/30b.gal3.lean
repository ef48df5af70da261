section
variable {Y : th_Y} {ad : Nat → Nat} {nv cnt : Nat} {sz : Nat → Nat} {V B : Nat → Nat → Int32} {ds kv ks : Nat → Int32} {wy : Nat → Nat} {wz : Nat → Nat → Int32} {K : Nat → Option Nat} {W : Nat → Nat → Int32} {H H1 : Heap}
theorem th_gAm (L : List Nat) {nv z9 : Nat} (hL : ∀ k ∈ L, k < 16 + 3 * nv) : ∀ q, q ∈ L.map ad → th_gA ad nv z9 q := fun q hq => by
  obtain ⟨k, hk, rfl⟩ := List.mem_map.mp hq
  exact Or.inl ⟨k, hL k hk, rfl⟩
theorem th_gDV (hG : th_gP Y ad (th_gS Y ad nv sz V B cnt ds wy wz kv ks K W) H) {i : Nat} (hi : i < nv) : va_P Y.1 vwCl [(ad 3, .inr (0, [.int (nI cnt), .ref (ad 4), .ref (ad 5)])), (ad 4, .inl (Y.2 0, 12, .inl ds)), (ad 5, .inr (4, [.int (nI (wy 0)), .ref (ad 6), .ref (ad 7), .ref (ad 8), .int (nI (wy 1)), .int (nI (wy 2)), .int (nI (wy 3))])), (ad 6, .inl (Y.2 0, 12, .inl (wz 0))), (ad 7, .inl (Y.2 0, 12, .inl (wz 1))), (ad 8, .inl (Y.2 1, 12, .inl (wz 2))), (ad (16 + 3 * i), .inr (2, [.int (nI (sz i)), .ref (ad (16 + 3 * i + 1)), .ref (ad (16 + 3 * i + 2))])), (ad (16 + 3 * i + 1), .inl (Y.2 0, 100, .inl (V i))), (ad (16 + 3 * i + 2), .inl (Y.2 0, 256, .inl (B i)))] H :=
  th_pc hG (k := 3) rfl (th_pc hG (k := 4) rfl (th_pc hG (k := 5) rfl (th_pc hG (k := 6) rfl (th_pc hG (k := 7) rfl (th_pc hG (k := 8) rfl (th_gV hG hi))))))
theorem th_gEM (hG : th_gP Y ad (th_gS Y ad nv sz V B cnt ds wy wz kv ks K W) H) : va_P Y.1 vwCl [(ad 3, .inr (0, [.int (nI cnt), .ref (ad 4), .ref (ad 5)])), (ad 4, .inl (Y.2 0, 12, .inl ds)), (ad 9, .inr (1, [.ref (ad 10), .ref (ad 11)])), (ad 10, .inl (Y.2 0, 64, .inl kv)), (ad 11, .inl (Y.2 0, 128, .inl ks))] H :=
  th_pc hG (k := 3) rfl (th_pc hG (k := 4) rfl (th_gMp hG))
theorem th_gE (hG : th_gP Y ad (th_gS Y ad nv sz V B cnt ds wy wz kv ks K W) H) : va_P Y.1 vwCl [(ad 3, .inr (0, [.int (nI cnt), .ref (ad 4), .ref (ad 5)])), (ad 4, .inl (Y.2 0, 12, .inl ds))] H :=
  th_pc hG (k := 3) rfl (th_pc hG (k := 4) rfl th_p0)
theorem th_gWV (hG : th_gP Y ad (th_gS Y ad nv sz V B cnt ds wy wz kv ks K W) H) {w i : Nat} (hw : w < 4) (hi : i < nv) : va_P Y.1 vwCl [(ad (12 + w), .inr (3, [va_rf ((K w).map (fun j => ad (16 + 3 * j))), .int (W w 0), .int (W w 1), .int (W w 2), .int (W w 3), .int (W w 4)])), (ad (16 + 3 * i), .inr (2, [.int (nI (sz i)), .ref (ad (16 + 3 * i + 1)), .ref (ad (16 + 3 * i + 2))])), (ad (16 + 3 * i + 1), .inl (Y.2 0, 100, .inl (V i))), (ad (16 + 3 * i + 2), .inl (Y.2 0, 256, .inl (B i)))] H :=
  th_pc hG (th_gS12 hw) (th_gV hG hi)
theorem th_gWW (hG : th_gP Y ad (th_gS Y ad nv sz V B cnt ds wy wz kv ks K W) H) {w w' i j : Nat} (hw : w < 4) (hw' : w' < 4) (hi : i < nv) (hj : j < nv) : va_P Y.1 vwCl [(ad (12 + w), .inr (3, [va_rf ((K w).map (fun j => ad (16 + 3 * j))), .int (W w 0), .int (W w 1), .int (W w 2), .int (W w 3), .int (W w 4)])), (ad (12 + w'), .inr (3, [va_rf ((K w').map (fun j => ad (16 + 3 * j))), .int (W w' 0), .int (W w' 1), .int (W w' 2), .int (W w' 3), .int (W w' 4)])), (ad (16 + 3 * i), .inr (2, [.int (nI (sz i)), .ref (ad (16 + 3 * i + 1)), .ref (ad (16 + 3 * i + 2))])), (ad (16 + 3 * i + 1), .inl (Y.2 0, 100, .inl (V i))), (ad (16 + 3 * i + 2), .inl (Y.2 0, 256, .inl (B i))), (ad (16 + 3 * j), .inr (2, [.int (nI (sz j)), .ref (ad (16 + 3 * j + 1)), .ref (ad (16 + 3 * j + 2))])), (ad (16 + 3 * j + 1), .inl (Y.2 0, 100, .inl (V j))), (ad (16 + 3 * j + 2), .inl (Y.2 0, 256, .inl (B j)))] H :=
  th_pc hG (th_gS12 hw) (th_pc hG (th_gS12 hw') (th_pc hG (th_gSv (j := 0) hi (by omega)) (th_pc hG (th_gSv (j := 1) hi (by omega)) (th_pc hG (th_gSv (j := 2) hi (by omega)) (th_gV hG hj)))))
theorem th_gW2 (hG : th_gP Y ad (th_gS Y ad nv sz V B cnt ds wy wz kv ks K W) H) {w w' : Nat} (hw : w < 4) (hw' : w' < 4) : va_P Y.1 vwCl [(ad (12 + w), .inr (3, [va_rf ((K w).map (fun j => ad (16 + 3 * j))), .int (W w 0), .int (W w 1), .int (W w 2), .int (W w 3), .int (W w 4)])), (ad (12 + w'), .inr (3, [va_rf ((K w').map (fun j => ad (16 + 3 * j))), .int (W w' 0), .int (W w' 1), .int (W w' 2), .int (W w' 3), .int (W w' 4)]))] H :=
  th_pc hG (th_gS12 hw) (th_pc hG (th_gS12 hw') th_p0)
end
theorem th_Same.tr {A : Nat → Prop} {H H1 H2 : Heap} (h : th_Same A H H1) (h' : th_Same A H1 H2) : th_Same A H H2 := ⟨Nat.le_trans h.1 h'.1, fun q h1 h2 => (h'.2 q (Nat.lt_of_lt_of_le h1 h.1) h2).trans (h.2 q h1 h2)⟩
theorem th_upE {f g : Nat → Int32} {n : Nat} {x : Int32} {hi : Nat} (h : ∀ j, j < n → f j = g j ∧ th_ir (g j) 0 hi) (hx : th_ir x 0 hi) : ∀ j, j < n + 1 → upd f n x j = upd g n x j ∧ th_ir (upd g n x j) 0 hi := fun j hj => by
  by_cases z : j = n
  · subst z; rw [pk_us, pk_us]; exact ⟨rfl, hx⟩
  · rw [pk_un z, pk_un z]; exact h j (by omega)
theorem th_updE {f g : Nat → Int32} {n q : Nat} {x : Int32} (h : ∀ j, j < n → j ≠ q → f j = g j) : ∀ j, j < n → upd f q x j = upd g q x j := fun j hj => by
  by_cases z : j = q
  · subst z; rw [pk_us, pk_us]
  · rw [pk_un z, pk_un z]; exact h j hj z
theorem th_pSE {f g : Nat → Int32} {B N : Nat → Nat} {R j n : Nat} (hj : j < R) (hb : ∀ i, i < R → th_al (B i) (N i) ∧ B i + N i ≤ n) (h : ∀ k, k < n → f k = g k) : th_pS f B N R j = th_pS g B N R j := by
  unfold th_pS
  have h1 := (hb (R - 1 - j) (by omega)).2
  exact th_rt_c _ _ _ (fun i hi => h _ (by omega))
theorem th_cfE {f g : Nat → Int32} {fo x : Int32} {lo : Nat} : ∀ d, (∀ i, i < d → f (lo + i) = g (lo + i)) → th_cf f fo x lo d = th_cf g fo x lo d
  | 0, _ => rfl
  | d + 1, h => by
    have ih := th_cfE (f := f) (g := g) (fo := fo) (x := x) (lo := lo) d (fun i hi => h i (by omega))
    show (if f (lo + d) = fo then th_cf f fo x lo d + nI 1 else th_cf f fo x lo d) = (if g (lo + d) = fo then th_cf g fo x lo d + nI 1 else th_cf g fo x lo d)
    rw [ih, h d (by omega)]
theorem th_gDA {Y : th_Y} {ad : Nat → Nat} {nv z9 : Nat} (hJ : th_gJ ad (16 + 3 * nv)) (ks9 : List Nat) {ws : va_W} (hk : ∀ k ∈ ks9, k < 16 + 3 * nv) (hn : th_nd ks9) (hws : ws.map (fun z => z.1) = ks9.map ad) : va_D (th_gA ad nv z9) ws :=
  ⟨(th_gD hJ ks9 hk hn hws).1, fun k q hq => th_gAm (ad := ad) ks9 hk q.1 (by rw [← hws]; exact List.mem_map.mpr ⟨q, List.mem_of_getElem? hq, rfl⟩)⟩
theorem th_row0 {f g : Nat → Int32} {n a m hi : Nat} (h : ∀ i, i < n → f i = g i ∧ th_ir (g i) 0 hi) : ∀ i, i < n + 0 → f i = th_row g n a m i ∧ th_ir (th_row g n a m i) 0 hi := fun i hi9 => by
  have e : th_row g n a m i = g i := if_neg (by omega)
  rw [e]
  exact h i hi9
theorem th_rowS {f g : Nat → Int32} {n a m j hi : Nat} (h : ∀ i, i < n + j → f i = th_row g n a m i ∧ th_ir (th_row g n a m i) 0 hi) (hj : j < m) (ha : a + m ≤ hi) : ∀ i, i < n + (j + 1) → upd f (n + j) (nI (a + j)) i = th_row g n a m i ∧ th_ir (th_row g n a m i) 0 hi := fun i hi9 => by
  by_cases z : i = n + j
  · subst z
    have e : th_row g n a m (n + j) = nI (a + j) := by
      unfold th_row
      rw [if_pos (by omega), show n + j - n = j by omega]
    rw [pk_us, e]
    exact ⟨rfl, th_irN (Nat.zero_le _) (by omega)⟩
  · rw [pk_un z]
    exact h i (by omega)
theorem th_poI {Y : th_Y} {g : Nat} {A : Nat → Prop} {x : Int32} {S : th_S} {H : Heap} (h : th_GW Y g A S H) : th_po Y g A (0, x, S) (some (.int x)) H := ⟨x, rfl, rfl, rfl, h⟩

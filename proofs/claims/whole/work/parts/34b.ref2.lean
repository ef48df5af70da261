section
variable {S : th_S} {val siz pro key kvi ksz krt ala fol cts : Nat → Int32}
theorem th_RvV {i n : Nat} {f val' siz' : Nat → Int32} (hv : th_RIv S val siz pro key kvi ksz krt ala fol cts) (hi : i < S.1) (hn : S.2.1 i ≤ n) (h100 : n ≤ 100) (hsz : siz' i = nI n) (hso : ∀ a, a ≠ i → siz' a = siz a) (hvn : ∀ j, j < n → val' (100 * i + j) = f j ∧ th_ir (f j) 0 65536) (hvo : ∀ q, q < 100 * i ∨ 100 * i + 100 ≤ q → val' q = val q) : th_RIv (th_sV S i n f) val' siz' pro key kvi ksz krt ala fol cts := by
  obtain ⟨v1, v2, v3, v4, v5, v6⟩ := hv
  refine ⟨v1, fun a ha => ?_, v3, v4, v5, fun w hw => ?_⟩
  · have ha : a < S.1 := ha
    show va_up S.2.1 i n a ≤ 100 ∧ siz' a = nI (va_up S.2.1 i n a) ∧ ∀ j, j < va_up S.2.1 i n a → val' (100 * a + j) = va_up S.2.2.1 i f a j ∧ th_ir (va_up S.2.2.1 i f a j) 0 65536
    by_cases h : a = i
    · subst h
      simp only [va_up_self]
      exact ⟨h100, hsz, hvn⟩
    · simp only [va_up_ne _ _ h]
      obtain ⟨h1, h2, h3⟩ := v2 a ha
      exact ⟨h1, (hso a h).trans h2, fun j hj => ⟨(hvo _ (by omega)).trans (h3 j hj).1, (h3 j hj).2⟩⟩
  · obtain ⟨h1, h2, h3, h4⟩ := v6 w hw
    refine ⟨h1, h2, ?_, h4⟩
    rcases h3 with h3 | ⟨j, k, e1, e2, e3, e4⟩
    · exact Or.inl h3
    · refine Or.inr ⟨j, k, e1, e2, ?_, e4⟩
      show k ≤ va_up S.2.1 i n j
      by_cases h : j = i
      · subst h; rw [va_up_self]; omega
      · rw [va_up_ne _ _ h]; exact e3
theorem th_RvD {cnt : Nat} {d pro' : Nat → Int32} (hv : th_RIv S val siz pro key kvi ksz krt ala fol cts) (h12 : cnt ≤ 12) (hd : ∀ j, j < cnt → pro' j = d j) : th_RIv (th_sD S cnt d) val siz pro' key kvi ksz krt ala fol cts := by
  obtain ⟨v1, v2, v3, v4, v5, v6⟩ := hv
  exact ⟨v1, v2, h12, hd, v5, v6⟩
theorem th_RvM {kv key' : Nat → Int32} (hv : th_RIv S val siz pro key kvi ksz krt ala fol cts) (hk : ∀ j, j < 64 → key' j = kv j) : th_RIv (th_sM S kv) val siz pro key' kvi ksz krt ala fol cts := by
  obtain ⟨v1, v2, v3, v4, v5, v6⟩ := hv
  exact ⟨v1, v2, v3, v4, hk, v6⟩
theorem th_RvW {w : Nat} {k9 : Option Nat} {f9 : Nat → Int32} {kvi' ksz' krt' ala' fol' cts' : Nat → Int32} (hv : th_RIv S val siz pro key kvi ksz krt ala fol cts) (hw : w < 4) (h1 : (k9 = none ∧ f9 0 = -1) ∨ ∃ j k : Nat, k9 = some j ∧ j < S.1 ∧ k ≤ S.2.1 j ∧ f9 0 = nI k) (h2 : f9 2 = 0 ∨ f9 2 = 1) (hk : ∀ j, k9 = some j → kvi' w = nI j) (e0 : ksz' w = f9 0) (e1 : krt' w = f9 1) (e2 : ala' w = f9 2) (e3 : fol' w = f9 3) (e4 : cts' w = f9 4) (ho : ∀ a, a ≠ w → kvi' a = kvi a ∧ ksz' a = ksz a ∧ krt' a = krt a ∧ ala' a = ala a ∧ fol' a = fol a ∧ cts' a = cts a) : th_RIv (th_sW S w k9 f9) val siz pro key kvi' ksz' krt' ala' fol' cts' := by
  obtain ⟨v1, v2, v3, v4, v5, v6⟩ := hv
  refine ⟨v1, v2, v3, v4, v5, fun a ha => ?_⟩
  have hx := v6 a ha
  unfold th_wI at hx ⊢
  show (ksz' a = va_up S.2.2.2.2.2.2.2 w f9 a 0 ∧ krt' a = va_up S.2.2.2.2.2.2.2 w f9 a 1 ∧ ala' a = va_up S.2.2.2.2.2.2.2 w f9 a 2 ∧ fol' a = va_up S.2.2.2.2.2.2.2 w f9 a 3 ∧ cts' a = va_up S.2.2.2.2.2.2.2 w f9 a 4) ∧ (∀ j, va_up S.2.2.2.2.2.2.1 w k9 a = some j → kvi' a = nI j) ∧ ((va_up S.2.2.2.2.2.2.1 w k9 a = none ∧ va_up S.2.2.2.2.2.2.2 w f9 a 0 = -1) ∨ ∃ j k : Nat, va_up S.2.2.2.2.2.2.1 w k9 a = some j ∧ j < S.1 ∧ k ≤ S.2.1 j ∧ va_up S.2.2.2.2.2.2.2 w f9 a 0 = nI k) ∧ (va_up S.2.2.2.2.2.2.2 w f9 a 2 = 0 ∨ va_up S.2.2.2.2.2.2.2 w f9 a 2 = 1)
  by_cases h : a = w
  · subst h
    simp only [va_up_self]
    exact ⟨⟨e0, e1, e2, e3, e4⟩, hk, h1, h2⟩
  · simp only [va_up_ne _ _ h]
    obtain ⟨o1, o2, o3, o4, o5, o6⟩ := ho a h
    rw [o1, o2, o3, o4, o5, o6]
    exact hx
theorem th_updO {f : Nat → Int32} {n : Nat} {x : Int32} {P : Nat → Prop} (hP : ¬ P n) : ∀ a, P a → upd f n x a = f a := fun a h => pk_un (fun z => hP (z ▸ h))
theorem th_rgO {x2 x3 : Int32} (h : th_ir x3 1 41 ∧ th_ir x2 0 (65537 - th_ix x3)) : th_ir x2 0 65536 := by
  obtain ⟨⟨j, h1, h2, rfl⟩, h3⟩ := h
  rw [th_ixN (by omega)] at h3
  obtain ⟨k, -, h4, rfl⟩ := h3
  exact th_irN (Nat.zero_le _) (by omega)
theorem th_RvF {i n : Nat} {val' siz' : Nat → Int32} (hv : th_RIv S val siz pro key kvi ksz krt ala fol cts) (h3 : S.1 < 3) (hi : i < S.1) (hn : n ≤ S.2.1 i) (hsz : siz' S.1 = nI n) (hso : ∀ a, a ≠ S.1 → siz' a = siz a) (hvn : ∀ j, j < n → val' (100 * S.1 + j) = S.2.2.1 i j) (hvo : ∀ q, q < 100 * S.1 → val' q = val q) : th_RIv (th_sF S i n) val' siz' pro key kvi ksz krt ala fol cts := by
  obtain ⟨v1, v2, v3, v4, v5, v6⟩ := hv
  refine ⟨⟨Nat.le_add_left _ _, by show S.1 + 1 ≤ 3; omega⟩, fun a ha => ?_, v3, v4, v5, fun w hw => ?_⟩
  · have ha : a < S.1 + 1 := ha
    show va_up S.2.1 S.1 n a ≤ 100 ∧ siz' a = nI (va_up S.2.1 S.1 n a) ∧ ∀ j, j < va_up S.2.1 S.1 n a → val' (100 * a + j) = va_up S.2.2.1 S.1 (S.2.2.1 i) a j ∧ th_ir (va_up S.2.2.1 S.1 (S.2.2.1 i) a j) 0 65536
    by_cases h : a = S.1
    · subst h
      simp only [va_up_self]
      exact ⟨Nat.le_trans hn (v2 i hi).1, hsz, fun j hj => ⟨hvn j hj, ((v2 i hi).2.2 j (by omega)).2⟩⟩
    · simp only [va_up_ne _ _ h]
      obtain ⟨h1, h2, h4⟩ := v2 a (by omega)
      exact ⟨h1, (hso a h).trans h2, fun j hj => ⟨(hvo _ (by omega)).trans (h4 j hj).1, (h4 j hj).2⟩⟩
  · obtain ⟨h1, h2, h3, h4⟩ := v6 w hw
    refine ⟨h1, h2, ?_, h4⟩
    rcases h3 with h3 | ⟨j, k, e1, e2, e3, e4⟩
    · exact Or.inl h3
    · refine Or.inr ⟨j, k, e1, Nat.lt_succ_of_lt e2, ?_, e4⟩
      show k ≤ va_up S.2.1 S.1 n j
      rw [va_up_ne _ _ (by omega)]
      exact e3
end
theorem th_apV {val f : Nat → Int32} {i n : Nat} {x : Int32} (h : ∀ j, j < n → val (100 * i + j) = f j ∧ th_ir (f j) 0 65536) (hx : th_ir x 0 65536) : ∀ j, j < n + 1 → upd val (100 * i + n) x (100 * i + j) = upd f n x j ∧ th_ir (upd f n x j) 0 65536 := fun j hj => by
  by_cases z : j = n
  · subst z; rw [pk_us, pk_us]; exact ⟨rfl, hx⟩
  · rw [pk_un z, pk_un (by omega)]; exact h j (by omega)
theorem th_irZ {x : Int32} {n : Nat} (h : ¬ 1 ≤ n) : (nI 0 ≤ x ∧ x ≤ -1) ↔ th_ir x 0 n := by
  constructor
  · rintro ⟨h1, h2⟩
    exfalso
    rw [Int32.le_iff_toInt_le] at h1 h2
    have h3 : (nI 0).toInt = 0 := by decide
    have h4 : (-1 : Int32).toInt = -1 := by decide
    omega
  · rintro ⟨j, h1, h2, -⟩
    omega
theorem th_rowR {val g : Nat → Int32} {i n a m j hi : Nat} (h : ∀ k, k < n + j → val (100 * i + k) = th_row g n a m k ∧ th_ir (th_row g n a m k) 0 hi) (hj : j < m) (ha : a + m ≤ hi) : ∀ k, k < n + (j + 1) → upd val (100 * i + (n + j)) (nI (a + j)) (100 * i + k) = th_row g n a m k ∧ th_ir (th_row g n a m k) 0 hi := fun k hk => by
  by_cases z : k = n + j
  · subst z
    have e : th_row g n a m (n + j) = nI (a + j) := by
      unfold th_row
      rw [if_pos (by omega), show n + j - n = j by omega]
    rw [pk_us, e]
    exact ⟨rfl, th_irN (Nat.zero_le _) (by omega)⟩
  · rw [pk_un (by omega)]
    exact h k (by omega)

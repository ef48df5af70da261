def th_ri (q : th_q3) : Int32 := if q.2.2 < th_sp q.2.1 then nI 1 else nI 0
theorem th_ri01 (q : th_q3) : th_ri q = 0 ∨ th_ri q = 1 := by
  unfold th_ri; split
  · exact Or.inr rfl
  · exact Or.inl rfl
def th_RB (f : Nat → Int32) (bes isr : Nat → Int32) (q : th_q3) (k : Nat) : Prop := ∀ j, j < k → bes j = th_rt f (th_bf (th_wa q j)) (th_bn (th_wa q j)) ∧ isr j = th_ri (th_wa q j)
theorem th_RB_s {f bes isr : Nat → Int32} {q : th_q3} {k : Nat} {x y : Int32} (h : th_RB f bes isr q k) (hx : x = th_rt f (th_bf (th_wa q k)) (th_bn (th_wa q k))) (hy : y = th_ri (th_wa q k)) : th_RB f (upd bes k x) (upd isr k y) q (k + 1) := fun j hj => by
  by_cases z : j = k
  · subst z; rw [pk_us, pk_us]; exact ⟨hx, hy⟩
  · rw [pk_un z, pk_un z]; exact h j (by omega)
theorem th_nxL {q : th_q3} (h : q.2.2 < th_sp q.2.1) : (th_nx q).1 = q.1 ∧ (th_nx q).2.1 = th_sp q.2.1 ∧ (th_nx q).2.2 = q.2.2 := by
  unfold th_nx; rw [if_pos h]; exact ⟨rfl, rfl, rfl⟩
theorem th_nxR {q : th_q3} (h : ¬ q.2.2 < th_sp q.2.1) : (th_nx q).1 = q.1 + th_sp q.2.1 ∧ (th_nx q).2.1 = q.2.1 - th_sp q.2.1 ∧ (th_nx q).2.2 = q.2.2 - th_sp q.2.1 := by
  unfold th_nx; rw [if_neg h]; exact ⟨rfl, rfl, rfl⟩
theorem th_endG {n : Nat} {q : th_q3} (h : th_in3 n q) (hq : q.2.1 ≤ 128) : (th_wa q (th_dG q)).1 + (th_wa q (th_dG q)).2.1 ≤ n := by
  obtain ⟨h1, -, h3⟩ := th_least h hq th_sG2
  exact (th_stop h hq th_sG2 h1 h3).1.2.1
theorem th_gR0 {q : th_q3} (h : (th_wa q (th_dG q)).1 = 0) : th_gR q = th_dG q := if_pos h
theorem th_gRs {q : th_q3} (h : (th_wa q (th_dG q)).1 ≠ 0) : th_gR q = th_dG q + 1 := if_neg h
theorem th_ldL {f g bes isr p : Nat → Int32} {q : th_q3} {n : Nat} (h : th_in3 n q) (hq : q.2.1 ≤ 128) (hb : ∀ k, k < th_dL q → p (0 + k) = bes (th_dL q - 1 - k)) (hR : th_RB f bes isr q (th_dL q)) (hf : ∀ k, k < n → f k = g k) : ∀ k, k < th_dL q → p k = th_pS g (th_B q) (th_L q) (th_dL q) k := fun k hk => by
  have h1 := hb k hk
  rw [Nat.zero_add] at h1
  rw [h1, (hR _ (by omega)).1]
  exact th_pSE (f := f) hk (th_rowsL h hq).2 hf
theorem th_ldG0 {f g bes isr p : Nat → Int32} {q : th_q3} {n : Nat} (h : th_in3 n q) (hq : q.2.1 ≤ 128) (h0 : (th_wa q (th_dG q)).1 = 0) (hb : ∀ k, k < th_dG q → p (0 + k) = bes (th_dG q - 1 - k)) (hR : th_RB f bes isr q (th_dG q)) (hf : ∀ k, k < n → f k = g k) : ∀ k, k < th_gR q → p k = th_pS g (th_gB q) (th_gL q) (th_gR q) k := fun k hk => by
  have e := th_gR0 h0
  rw [← th_pSE (f := f) hk (th_rowsG h hq).2.2 hf]
  rw [e] at hk ⊢
  have h1 := hb k hk
  rw [Nat.zero_add] at h1
  rw [h1, (hR _ (by omega)).1]
  unfold th_pS th_gB th_gL
  rw [if_pos (by omega), if_pos (by omega)]
theorem th_ldG1 {f g bes isr p : Nat → Int32} {q : th_q3} {n : Nat} (h : th_in3 n q) (hq : q.2.1 ≤ 128) (h0 : (th_wa q (th_dG q)).1 ≠ 0) (hp : p 0 = th_rt g (th_wa q (th_dG q)).1 (th_wa q (th_dG q)).2.1) (hb : ∀ k, k < th_dG q → p (1 + k) = bes (th_dG q - 1 - k)) (hR : th_RB f bes isr q (th_dG q)) (hf : ∀ k, k < n → f k = g k) : ∀ k, k < th_gR q → p k = th_pS g (th_gB q) (th_gL q) (th_gR q) k := fun k hk => by
  have e := th_gRs h0
  rcases Nat.eq_zero_or_pos k with z | z
  · subst z
    rw [e, hp]
    unfold th_pS th_gB th_gL
    rw [Nat.add_sub_cancel, Nat.sub_zero, if_neg (Nat.lt_irrefl _), if_neg (Nat.lt_irrefl _)]
  · rw [← th_pSE (f := f) hk (th_rowsG h hq).2.2 hf]
    rw [e] at hk ⊢
    have h1 := hb (k - 1) (by omega)
    rw [show 1 + (k - 1) = k by omega] at h1
    rw [h1, (hR _ (by omega)).1]
    unfold th_pS th_gB th_gL
    rw [if_pos (by omega), if_pos (by omega), show th_dG q + 1 - 1 - k = th_dG q - 1 - (k - 1) by omega]
/-- how long a level is -/
def th_lw (L mn : Nat) : Prop := L ≤ 6 ∧ mn = 64 / 2 ^ L
theorem th_lw0 : th_lw 0 64 := ⟨by decide, rfl⟩
theorem th_lw1 {L mn : Nat} (h : th_lw L mn) : 1 ≤ mn ∧ mn ≤ 64 ∧ (1 < mn → L < 6 ∧ mn / 2 + mn / 2 = mn ∧ th_lw (L + 1) (mn / 2)) ∧ (mn ≤ 1 → L = 6 ∧ mn = 1) := by
  obtain ⟨h1, rfl⟩ := h
  rcases (show L = 0 ∨ L = 1 ∨ L = 2 ∨ L = 3 ∨ L = 4 ∨ L = 5 ∨ L = 6 by omega) with rfl | rfl | rfl | rfl | rfl | rfl | rfl <;> exact ⟨by decide, by decide, fun z => ⟨by revert z; decide, by revert z; decide, by revert z; decide, by revert z; decide⟩, fun z => by revert z; decide⟩
theorem th_xor64 {key L : Nat} (hk : key < 64) (hL : L < 6) : (key / 2 ^ L ^^^ 1) < 64 / 2 ^ L := (th_xorK key hk L hL).2
theorem th_nmk {key : Nat} (h : key < 64) : ¬ nI key = -1 := fun z => by
  have := congrArg Int32.toInt z
  rw [nI_toInt (by omega)] at this
  have h5 : (-1 : Int32).toInt = -1 := by decide
  rw [h5] at this
  omega

def th_ri (q : th_q3) : Int32 := if q.2.2 < th_sp q.2.1 then nI 1 else nI 0
theorem th_ri01 (q : th_q3) : th_ri q = 0 ∨ th_ri q = 1 := by
  unfold th_ri; split
  · exact Or.inr rfl
  · exact Or.inl rfl
def th_RB (f : Nat → Int32) (bes isr : Nat → Int32) (q : th_q3) (k : Nat) : Prop := ∀ j, j < k → bes j = th_rt f (th_bf (th_wa q j)) (th_bn (th_wa q j)) ∧ isr j = th_ri (th_wa q j)
theorem th_RB_s {f bes isr : Nat → Int32} {q : th_q3} {k : Nat} {x y : Int32} (h : th_RB f bes isr q k) (hx : x = th_rt f (th_bf (th_wa q k)) (th_bn (th_wa q k))) (hy : y = th_ri (th_wa q k)) : th_RB f (upd bes k x) (upd isr k y) q (k + 1) := fun j hj => by
  by_cases z : j = k
  · subst z; rw [pk_us, pk_us]; exact ⟨hx, hy⟩
  · rw [pk_un z, pk_un z]; exact h j (by omega)
theorem th_nxL {q : th_q3} (h : q.2.2 < th_sp q.2.1) : (th_nx q).1 = q.1 ∧ (th_nx q).2.1 = th_sp q.2.1 ∧ (th_nx q).2.2 = q.2.2 := by
  unfold th_nx; rw [if_pos h]; exact ⟨rfl, rfl, rfl⟩
theorem th_nxR {q : th_q3} (h : ¬ q.2.2 < th_sp q.2.1) : (th_nx q).1 = q.1 + th_sp q.2.1 ∧ (th_nx q).2.1 = q.2.1 - th_sp q.2.1 ∧ (th_nx q).2.2 = q.2.2 - th_sp q.2.1 := by
  unfold th_nx; rw [if_neg h]; exact ⟨rfl, rfl, rfl⟩

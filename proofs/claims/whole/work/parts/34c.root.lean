/-! full trees of unlike sizes, the greatest first -/
def th_of (e : Nat → Nat) : Nat → Nat
  | 0 => 0
  | k + 1 => th_of e k + 2 ^ e k
def th_SK (f : Nat → Int32) (a0 : Nat) (tre spa : Nat → Int32) (e : Nat → Nat) (lf : Nat) : Prop := ∀ k, k < lf → spa k = nI (2 ^ e k) ∧ tre k = th_rt f (a0 + th_of e k) (2 ^ e k)
def th_de (e : Nat → Nat) (lf : Nat) : Prop := ∀ k, k + 1 < lf → e (k + 1) < e k
def th_dw (e : Nat → Nat) (lf : Nat) : Prop := (∀ k, k + 2 < lf → e (k + 1) < e k) ∧ ∀ k, k + 2 = lf → e (k + 1) ≤ e k
theorem th_of_c {e e' : Nat → Nat} : ∀ n, (∀ k, k < n → e k = e' k) → th_of e n = th_of e' n
  | 0, _ => rfl
  | n + 1, h => by
    show th_of e n + 2 ^ e n = th_of e' n + 2 ^ e' n
    rw [th_of_c n (fun k hk => h k (by omega)), h n (by omega)]
theorem th_of_ge {e : Nat → Nat} : ∀ {n k : Nat}, k < n → 2 ^ e k ≤ th_of e n
  | 0, k, h => absurd h (Nat.not_lt_zero k)
  | n + 1, k, h => by
    show 2 ^ e k ≤ th_of e n + 2 ^ e n
    by_cases z : k = n
    · subst z; omega
    · exact Nat.le_trans (th_of_ge (e := e) (n := n) (k := k) (by omega)) (Nat.le_add_right _ _)
theorem th_de_le {e : Nat → Nat} {lf : Nat} (h : th_de e lf) : ∀ k, k < lf → e k + k ≤ e 0
  | 0, _ => Nat.le_refl _
  | k + 1, hk => by
    have h1 := th_de_le h k (by omega)
    have h2 := h k hk
    omega
theorem th_pinj {a b : Nat} (h : 2 ^ a = 2 ^ b) : a = b := by
  rcases Nat.lt_trichotomy a b with z | z | z
  · have := Nat.pow_lt_pow_right (a := 2) (by decide) z; omega
  · exact z
  · have := Nat.pow_lt_pow_right (a := 2) (by decide) z; omega
theorem th_l7 {e : Nat → Nat} {lf c : Nat} (h : th_de e lf) (ho : th_of e lf = c) (hc : c ≤ 100) : lf ≤ 7 := by
  rcases Nat.eq_zero_or_pos lf with z | z
  · omega
  · have h1 := th_of_ge (e := e) z
    have h2 := th_de_le h (lf - 1) (by omega)
    have h3 : e 0 < 7 := by
      rcases Nat.lt_or_ge (e 0) 7 with k | k
      · exact k
      · have := Nat.pow_le_pow_right (n := 2) (by decide) k
        simp only [Nat.reducePow] at this
        omega
    omega
theorem th_SK_push {f : Nat → Int32} {a0 : Nat} {tre spa : Nat → Int32} {e : Nat → Nat} {lf c : Nat} (h : th_SK f a0 tre spa e lf) (hd : th_de e lf) (ho : th_of e lf = c) : th_SK f a0 (upd tre lf (th_ls (f (a0 + c)))) (upd spa lf (nI 1)) (va_up e lf 0) (lf + 1) ∧ th_dw (va_up e lf 0) (lf + 1) ∧ th_of (va_up e lf 0) (lf + 1) = c + 1 := by
  have e1 : ∀ n, n ≤ lf → th_of (va_up e lf 0) n = th_of e n := fun n hn => th_of_c n (fun k hk => va_up_ne _ _ (by omega))
  refine ⟨fun k hk => ?_, ⟨fun k hk => ?_, fun k hk => ?_⟩, ?_⟩
  · by_cases z : k = lf
    · subst z
      rw [pk_us, pk_us, va_up_self, e1 k (Nat.le_refl _), ho]
      exact ⟨rfl, (th_rt_1 _ _).symm⟩
    · rw [pk_un z, pk_un z, va_up_ne _ _ z, e1 k (by omega)]
      exact h k (by omega)
  · rw [va_up_ne _ _ (by omega), va_up_ne _ _ (by omega)]
    exact hd k (by omega)
  · rw [show k + 1 = lf by omega, va_up_self]
    exact Nat.zero_le _
  · show th_of (va_up e lf 0) lf + 2 ^ va_up e lf 0 lf = c + 1
    rw [e1 lf (Nat.le_refl _), va_up_self, ho]
theorem th_SK_merge {f : Nat → Int32} {a0 : Nat} {tre spa : Nat → Int32} {e : Nat → Nat} {lf : Nat} (h2 : 2 ≤ lf) (h : th_SK f a0 tre spa e lf) (hd : th_dw e lf) (he : 2 ^ e (lf - 1) = 2 ^ e (lf - 2)) : th_SK f a0 (upd tre (lf - 1 - 1) (th_mx (tre (lf - 1 - 1)) (tre (lf - 1)))) (upd spa (lf - 1 - 1) (nI (2 ^ e (lf - 1 - 1) * 2))) (va_up e (lf - 1 - 1) (e (lf - 1 - 1) + 1)) (lf - 1) ∧ th_dw (va_up e (lf - 1 - 1) (e (lf - 1 - 1) + 1)) (lf - 1) ∧ th_of (va_up e (lf - 1 - 1) (e (lf - 1 - 1) + 1)) (lf - 1) = th_of e lf := by
  obtain ⟨q, rfl⟩ : ∃ q, lf = q + 2 := ⟨lf - 2, by omega⟩
  have he' : e (q + 1) = e q := th_pinj he
  show th_SK f a0 (upd tre q (th_mx (tre q) (tre (q + 1)))) (upd spa q (nI (2 ^ e q * 2))) (va_up e q (e q + 1)) (q + 1) ∧ th_dw (va_up e q (e q + 1)) (q + 1) ∧ th_of (va_up e q (e q + 1)) (q + 1) = th_of e (q + 2)
  have e1 : ∀ n, n ≤ q → th_of (va_up e q (e q + 1)) n = th_of e n := fun n hn => th_of_c n (fun k hk => va_up_ne _ _ (by omega))
  refine ⟨fun k hk => ?_, ⟨fun k hk => ?_, fun k hk => ?_⟩, ?_⟩
  · by_cases z : k = q
    · subst z
      rw [pk_us, pk_us, va_up_self, e1 k (Nat.le_refl _), (h k (by omega)).2, (h (k + 1) (by omega)).2, he', th_rt_2]
      refine ⟨by rw [Nat.pow_succ], ?_⟩
      show _ = th_mx _ _
      rw [show a0 + th_of e (k + 1) = a0 + th_of e k + 2 ^ e k from (Nat.add_assoc _ _ _).symm]
    · rw [pk_un z, pk_un z, va_up_ne _ _ z, e1 k (by omega)]
      exact h k (by omega)
  · rw [va_up_ne _ _ (by omega), va_up_ne _ _ (by omega)]
    exact hd.1 k (by omega)
  · obtain rfl : q = k + 1 := by omega
    rw [va_up_self, va_up_ne _ _ (by omega)]
    have := hd.1 k (by omega)
    omega
  · show th_of (va_up e q (e q + 1)) q + 2 ^ va_up e q (e q + 1) q = th_of e q + 2 ^ e q + 2 ^ e (q + 1)
    rw [e1 q (Nat.le_refl _), va_up_self, he', Nat.pow_succ]
    omega
theorem th_dwd {e : Nat → Nat} {lf : Nat} (hd : th_dw e lf) (hne : 2 ^ e (lf - 1) ≠ 2 ^ e (lf - 2)) : th_de e lf := fun k hk => by
  rcases (show k + 2 < lf ∨ k + 2 = lf by omega) with z | z
  · exact hd.1 k z
  · have h1 := hd.2 k z
    subst z
    have h2 : e (k + 1) ≠ e k := fun z => hne (by show 2 ^ e (k + 1) = 2 ^ e k; rw [z])
    omega
theorem th_of_tail {e : Nat → Nat} {lf : Nat} (h : th_de e lf) : ∀ d k, k + (d + 1) = lf → th_of e k + 2 ^ e k ≤ th_of e lf ∧ th_of e lf < th_of e k + 2 ^ e k * 2
  | 0, k, hk => by
    subst hk
    have : 0 < 2 ^ e k := Nat.two_pow_pos _
    show th_of e k + 2 ^ e k ≤ th_of e k + 2 ^ e k ∧ th_of e k + 2 ^ e k < _
    omega
  | d + 1, k, hk => by
    obtain ⟨h1, h2⟩ := th_of_tail h d (k + 1) (by omega)
    have h3 : th_of e (k + 1) = th_of e k + 2 ^ e k := rfl
    have h4 := h k (by omega)
    have h5 : 2 ^ e (k + 1) * 2 ≤ 2 ^ e k := by
      have := Nat.pow_le_pow_right (n := 2) (by decide) (show e (k + 1) + 1 ≤ e k by omega)
      rw [Nat.pow_succ] at this
      exact this
    omega
theorem th_SK_fold {f : Nat → Int32} {a0 : Nat} {tre spa : Nat → Int32} {e : Nat → Nat} {lf c t : Nat} {x : Int32} (h : th_SK f a0 tre spa e lf) (hd : th_de e lf) (ho : th_of e lf = c) (h1 : 1 ≤ t) (ht : t < lf) (hx : x = th_rt f (a0 + th_of e t) (c - th_of e t)) : th_mx (tre (t - 1)) x = th_rt f (a0 + th_of e (t - 1)) (c - th_of e (t - 1)) := by
  obtain ⟨k, rfl⟩ : ∃ k, t = k + 1 := ⟨t - 1, by omega⟩
  show th_mx (tre k) x = th_rt f (a0 + th_of e k) (c - th_of e k)
  obtain ⟨g1, g2⟩ := th_of_tail hd (lf - 1 - k) k (by omega)
  obtain ⟨g3, g4⟩ := th_of_tail hd (lf - 1 - (k + 1)) (k + 1) (by omega)
  have h3 : th_of e (k + 1) = th_of e k + 2 ^ e k := rfl
  have h5 : 0 < 2 ^ e (k + 1) := Nat.two_pow_pos _
  rw [hx, (h k (by omega)).2, show c - th_of e k = 2 ^ e k + (c - th_of e (k + 1)) by omega, th_rt_b f _ (by omega) (by omega), h3, Nat.add_assoc]
theorem th_SK_last {f : Nat → Int32} {a0 : Nat} {tre spa : Nat → Int32} {e : Nat → Nat} {lf c : Nat} (h : th_SK f a0 tre spa e lf) (ho : th_of e lf = c) (h1 : 1 ≤ lf) : tre (lf - 1) = th_rt f (a0 + th_of e (lf - 1)) (c - th_of e (lf - 1)) := by
  obtain ⟨k, rfl⟩ : ∃ k, lf = k + 1 := ⟨lf - 1, by omega⟩
  show tre k = th_rt f (a0 + th_of e k) (c - th_of e k)
  have h3 : th_of e (k + 1) = th_of e k + 2 ^ e k := rfl
  have h4 : 0 < 2 ^ e k := Nat.two_pow_pos _
  rw [(h k (by omega)).2, show c - th_of e k = 2 ^ e k by omega]
theorem th_m2 {n : Nat} (h : 1 ≤ n) : nI n - nI 2 = nI (n - 1) - nI 1 := by
  rcases (show n = 1 ∨ 2 ≤ n by omega) with rfl | h2
  · rfl
  · rw [pk_sub (by omega), pk_sub (by omega)]
    exact congrArg nI (by omega)
theorem th_sm1 (x : Int32) : x + Int32.ofInt (-1) = x - nI 1 := by
  rw [Int32.sub_eq_add_neg]
  exact congrArg (fun z => x + z) (by decide : Int32.ofInt (-1) = - nI 1)

/-! numbers: sums, the split, the root of a row of leaves -/
def th_ls (v : Int32) : Int32 := ((40503 : Int64) * v.toInt64 + 12345 - ((40503 : Int64) * v.toInt64 + 12345) / 1000003 * 1000003).toInt32
def th_mx (a b : Int32) : Int32 := ((7919 : Int64) * a.toInt64 + (31337 : Int64) * b.toInt64 + 11 - ((7919 : Int64) * a.toInt64 + (31337 : Int64) * b.toInt64 + 11) / 1000003 * 1000003).toInt32
def th_ks (v : Int32) : Int32 := if v = -1 then 0 else th_ls (v + 1)
def th_jn (a b : Int32) : Int32 := if a = 0 ∧ b = 0 then 0 else th_mx a b
/-- the greatest power of two below n; 1 if there is none -/
def th_sp (n : Nat) : Nat := 2 ^ Nat.log2 (n - 1)
theorem th_sp_lt {n : Nat} (h : 2 ≤ n) : th_sp n < n := by
  have h1 : 2 ^ Nat.log2 (n - 1) ≤ n - 1 := Nat.log2_self_le (by omega)
  unfold th_sp; omega
theorem th_sp_pos (n : Nat) : 0 < th_sp n := Nat.two_pow_pos _
theorem th_sp_ge {n : Nat} (h : 2 ≤ n) : n ≤ 2 * th_sp n := by
  have h1 : n - 1 < 2 ^ (Nat.log2 (n - 1) + 1) := Nat.lt_log2_self
  unfold th_sp
  rw [Nat.pow_succ] at h1
  omega
theorem th_sp_eq {n j : Nat} (h1 : 2 ^ j < n) (h2 : n ≤ 2 ^ (j + 1)) : th_sp n = 2 ^ j := by
  unfold th_sp
  have h0 : 0 < 2 ^ j := Nat.two_pow_pos j
  have e : Nat.log2 (n - 1) = j := (Nat.log2_eq_iff (by omega)).mpr ⟨by omega, by omega⟩
  rw [e]
theorem th_sp_two (n : Nat) : ∃ j, th_sp n = 2 ^ j := ⟨_, rfl⟩
theorem th_sp_1 : th_sp 1 = 1 := by decide
/-- the root of the row of n leaves from a on -/
def th_rt (f : Nat → Int32) (a n : Nat) : Int32 :=
  if h : n ≤ 1 then (if n = 0 then 0 else th_ls (f a)) else th_mx (th_rt f a (th_sp n)) (th_rt f (a + th_sp n) (n - th_sp n))
termination_by n
decreasing_by
  · exact th_sp_lt (by omega)
  · have := th_sp_pos n; omega
theorem th_rt_0 (f : Nat → Int32) (a : Nat) : th_rt f a 0 = 0 := by unfold th_rt; simp
theorem th_rt_1 (f : Nat → Int32) (a : Nat) : th_rt f a 1 = th_ls (f a) := by unfold th_rt; simp
theorem th_rt_s (f : Nat → Int32) (a : Nat) {n : Nat} (h : 2 ≤ n) : th_rt f a n = th_mx (th_rt f a (th_sp n)) (th_rt f (a + th_sp n) (n - th_sp n)) := by
  rw [th_rt, dif_neg (by omega)]
theorem th_rt_c {f g : Nat → Int32} : ∀ (n a b : Nat), (∀ i, i < n → f (a + i) = g (b + i)) → th_rt f a n = th_rt g b n := by
  intro n
  induction n using Nat.strongRecOn with
  | _ n ih =>
    intro a b h
    rcases Nat.lt_or_ge n 2 with h2 | h2
    · rcases (show n = 0 ∨ n = 1 by omega) with rfl | rfl
      · rw [th_rt_0, th_rt_0]
      · rw [th_rt_1, th_rt_1]
        have := h 0 (by omega)
        simp only [Nat.add_zero] at this
        rw [this]
    · have hl := th_sp_lt h2
      have hp := th_sp_pos n
      rw [th_rt_s f a h2, th_rt_s g b h2, ih _ hl a b (fun i hi => h i (by omega)), ih (n - th_sp n) (by omega) (a + th_sp n) (b + th_sp n) (fun i hi => by
        have := h (th_sp n + i) (by omega)
        rw [← Nat.add_assoc, ← Nat.add_assoc] at this
        exact this)]
/-- a whole block over two -/
theorem th_rt_2 (f : Nat → Int32) (a L : Nat) : th_rt f a (2 ^ (L + 1)) = th_mx (th_rt f a (2 ^ L)) (th_rt f (a + 2 ^ L) (2 ^ L)) := by
  have h0 : 0 < 2 ^ L := Nat.two_pow_pos L
  have h1 : 2 ^ (L + 1) = 2 ^ L + 2 ^ L := by rw [Nat.pow_succ]; omega
  have hs : th_sp (2 ^ (L + 1)) = 2 ^ L := th_sp_eq (by omega) (by omega)
  rw [th_rt_s f a (by omega), hs, show 2 ^ (L + 1) - 2 ^ L = 2 ^ L by omega]
/-- a whole block ahead of fewer leaves -/
theorem th_rt_b (f : Nat → Int32) (a : Nat) {L r : Nat} (h0 : 0 < r) (h1 : r ≤ 2 ^ L) : th_rt f a (2 ^ L + r) = th_mx (th_rt f a (2 ^ L)) (th_rt f (a + 2 ^ L) r) := by
  have hp : 0 < 2 ^ L := Nat.two_pow_pos L
  have hs : th_sp (2 ^ L + r) = 2 ^ L := th_sp_eq (by omega) (by rw [Nat.pow_succ]; omega)
  rw [th_rt_s f a (by omega), hs, show 2 ^ L + r - 2 ^ L = r by omega]

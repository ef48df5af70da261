/-! a view's heap of sums: every whole block of its leaves has its root there -/
def th_BI (f g : Nat → Int32) (n : Nat) : Prop := ∀ L i : Nat, L ≤ 7 → (i + 1) * 2 ^ L ≤ n → g (128 / 2 ^ L + i) = th_rt f (i * 2 ^ L) (2 ^ L)
def th_BJ (f g : Nat → Int32) (n v : Nat) : Prop := ∀ L i : Nat, L ≤ 7 → (i + 1) * 2 ^ L ≤ n + 1 → (L ≤ v ∨ (i + 1) * 2 ^ L ≤ n) → g (128 / 2 ^ L + i) = th_rt f (i * 2 ^ L) (2 ^ L)
theorem th_BI_0 (f g : Nat → Int32) : th_BI f g 0 := fun L i _ h => by
  have : 0 < 2 ^ L := Nat.two_pow_pos L
  have h2 : 0 < (i + 1) * 2 ^ L := Nat.mul_pos (Nat.succ_pos i) this
  omega
theorem th_c8 {P : Nat → Prop} (h : P 0 ∧ P 1 ∧ P 2 ∧ P 3 ∧ P 4 ∧ P 5 ∧ P 6 ∧ P 7) : ∀ L, L ≤ 7 → P L := by
  obtain ⟨h0, h1, h2, h3, h4, h5, h6, h7⟩ := h
  intro L hL
  rcases (show L = 0 ∨ L = 1 ∨ L = 2 ∨ L = 3 ∨ L = 4 ∨ L = 5 ∨ L = 6 ∨ L = 7 by omega) with rfl | rfl | rfl | rfl | rfl | rfl | rfl | rfl <;> assumption
theorem th_BJ_0 {f g : Nat → Int32} {n : Nat} (x : Int32) (hn : n < 100) (h : th_BI f g n) : th_BJ (upd f n x) (upd g (128 + n) (th_ls x)) n 0 := by
  intro L i hL h1 h2
  have hp : 0 < 2 ^ L := Nat.two_pow_pos L
  by_cases hx : 128 / 2 ^ L + i = 128 + n
  · have hL0 : L = 0 := by
      revert L
      refine th_c8 ⟨?_, ?_, ?_, ?_, ?_, ?_, ?_, ?_⟩ <;> intros <;> simp only [Nat.reducePow, Nat.reduceDiv] at * <;> omega
    subst hL0
    have hi : i = n := by simp only [Nat.reducePow, Nat.reduceDiv] at *; omega
    subst hi
    rw [hx, pk_us]
    rw [show i * 2 ^ 0 = i by omega, show 2 ^ 0 = 1 from rfl, th_rt_1, pk_us]
  · have h3 : (i + 1) * 2 ^ L ≤ n := by
      rcases h2 with h2 | h2
      · have hL0 : L = 0 := by omega
        subst hL0
        simp only [Nat.reducePow, Nat.reduceDiv] at *; omega
      · exact h2
    rw [pk_un hx, h L i hL h3]
    refine th_rt_c _ _ _ (fun j hj => ?_)
    have h4 : i * 2 ^ L + j < n := by
      have : (i + 1) * 2 ^ L = i * 2 ^ L + 2 ^ L := Nat.succ_mul i (2 ^ L)
      omega
    rw [pk_un (by omega)]
theorem th_BJ_s {f g : Nat → Int32} {n v q : Nat} (hn : n < 100) (hv : v < 7) (h : th_BJ f g n v) (hq : q = (128 + n) / 2 ^ v) (ho : q % 2 = 1) (hm : (n + 1) % 2 ^ v = 0) : th_BJ f (upd g (q / 2) (th_mx (g (q - 1)) (g q))) n (v + 1) ∧ q / 2 = (128 + n) / 2 ^ (v + 1) ∧ (n + 1) % 2 ^ (v + 1) = 0 := by
  have e1 : q / 2 = (128 + n) / 2 ^ (v + 1) := by rw [hq, Nat.div_div_eq_div_mul, Nat.pow_succ]
  have e2 : (n + 1) % 2 ^ (v + 1) = 0 := by
    have hv' : v ≤ 7 := by omega
    revert v
    intro v
    revert v
    intro v hv h hq hm e1 hv'
    rcases (show v = 0 ∨ v = 1 ∨ v = 2 ∨ v = 3 ∨ v = 4 ∨ v = 5 ∨ v = 6 by omega) with rfl | rfl | rfl | rfl | rfl | rfl | rfl <;> simp only [Nat.reducePow, Nat.reduceAdd] at * <;> omega
  refine ⟨?_, e1, e2⟩
  intro L i hL h1 h2
  have hp : 0 < 2 ^ L := Nat.two_pow_pos L
  by_cases hx : 128 / 2 ^ L + i = q / 2
  · have hL1 : L = v + 1 := by
      rcases (show v = 0 ∨ v = 1 ∨ v = 2 ∨ v = 3 ∨ v = 4 ∨ v = 5 ∨ v = 6 by omega) with rfl | rfl | rfl | rfl | rfl | rfl | rfl <;>
        rcases (show L = 0 ∨ L = 1 ∨ L = 2 ∨ L = 3 ∨ L = 4 ∨ L = 5 ∨ L = 6 ∨ L = 7 by omega) with rfl | rfl | rfl | rfl | rfl | rfl | rfl | rfl <;>
        first | rfl | (exfalso; simp only [Nat.reducePow, Nat.reduceAdd, Nat.reduceDiv] at hx e1 h1; omega)
    subst hL1
    have hLv : (i + 1) * 2 ^ (v + 1) = n + 1 ∧ q - 1 = 128 / 2 ^ v + 2 * i ∧ q = 128 / 2 ^ v + (2 * i + 1) ∧ (2 * i + 1 + 1) * 2 ^ v ≤ n + 1 ∧ (2 * i + 1) * 2 ^ v ≤ n := by
      rcases (show v = 0 ∨ v = 1 ∨ v = 2 ∨ v = 3 ∨ v = 4 ∨ v = 5 ∨ v = 6 by omega) with rfl | rfl | rfl | rfl | rfl | rfl | rfl <;>
        simp only [Nat.reducePow, Nat.reduceAdd, Nat.reduceDiv] at hx hq e1 e2 h1 ⊢ <;> omega
    obtain ⟨h3, h4, h5, h6, h7⟩ := hLv
    rw [hx, pk_us, h4, h v (2 * i) (by omega) (by omega) (Or.inl (Nat.le_refl v)), h5, h v (2 * i + 1) (by omega) h6 (Or.inl (Nat.le_refl v))]
    rw [th_rt_2 f (i * 2 ^ (v + 1)) v]
    have e3 : 2 * i * 2 ^ v = i * 2 ^ (v + 1) := by rw [Nat.pow_succ, Nat.mul_comm 2 i, Nat.mul_assoc, Nat.mul_comm 2]
    have e4 : (2 * i + 1) * 2 ^ v = i * 2 ^ (v + 1) + 2 ^ v := by rw [Nat.add_mul, e3, Nat.one_mul]
    rw [e3, e4]
  · rw [pk_un hx]
    refine h L i hL h1 ?_
    rcases h2 with h2 | h2
    · rcases Nat.lt_or_ge v L with h3 | h3
      · refine Or.inr ?_
        have hLv : L = v + 1 := by omega
        subst hLv
        rcases (show v = 0 ∨ v = 1 ∨ v = 2 ∨ v = 3 ∨ v = 4 ∨ v = 5 ∨ v = 6 by omega) with rfl | rfl | rfl | rfl | rfl | rfl | rfl <;> simp only [Nat.reducePow, Nat.reduceAdd, Nat.reduceDiv] at * <;> omega
      · exact Or.inl h3
    · exact Or.inr h2
theorem th_BJ_e {f g : Nat → Int32} {n v q : Nat} (hn : n < 100) (hv : v ≤ 7) (h : th_BJ f g n v) (hq : q = (128 + n) / 2 ^ v) (ho : q % 2 = 0 ∨ 7 ≤ v) (hm : (n + 1) % 2 ^ v = 0) : th_BI f g (n + 1) := by
  intro L i hL h1
  refine h L i hL h1 ?_
  rcases Nat.lt_or_ge v L with h3 | h3
  · refine Or.inr ?_
    rcases (show v = 0 ∨ v = 1 ∨ v = 2 ∨ v = 3 ∨ v = 4 ∨ v = 5 ∨ v = 6 ∨ v = 7 by omega) with rfl | rfl | rfl | rfl | rfl | rfl | rfl | rfl <;>
      rcases (show L = 0 ∨ L = 1 ∨ L = 2 ∨ L = 3 ∨ L = 4 ∨ L = 5 ∨ L = 6 ∨ L = 7 by omega) with rfl | rfl | rfl | rfl | rfl | rfl | rfl | rfl <;>
      simp only [Nat.reducePow, Nat.reduceAdd, Nat.reduceDiv] at * <;> omega
  · exact Or.inl h3
/-- a row of leaves that lies by a power of two -/
def th_al (a n : Nat) : Prop := ∃ L : Nat, L ≤ 7 ∧ n ≤ 2 ^ L ∧ a % 2 ^ L = 0
theorem th_al_0 {n : Nat} (h : n ≤ 128) : th_al 0 n := ⟨7, Nat.le_refl 7, h, rfl⟩
/-- one bit of the row's length: the block that it stands for -/
theorem th_row_s {f g : Nat → Int32} {n a m v e : Nat} (hn : n ≤ 100) (hB : th_BI f g n) (ha : th_al a m) (hm : a + m ≤ n) (hv : v < 7) (he : e + m % 2 ^ v = a + m) (hb : m / 2 ^ v % 2 = 1) :
    2 ^ v ≤ e ∧ (128 + (e - 2 ^ v)) / 2 ^ v < 256 ∧ e - 2 ^ v + m % 2 ^ (v + 1) = a + m ∧ th_rt f (e - 2 ^ v) (m % 2 ^ (v + 1)) = (if m % 2 ^ v = 0 then g ((128 + (e - 2 ^ v)) / 2 ^ v) else th_mx (g ((128 + (e - 2 ^ v)) / 2 ^ v)) (th_rt f e (m % 2 ^ v))) := by
  obtain ⟨L, hL, h1, h2⟩ := ha
  have hp : 0 < 2 ^ v := Nat.two_pow_pos v
  have k : 2 ^ v ≤ e ∧ (128 + (e - 2 ^ v)) / 2 ^ v < 256 ∧ e - 2 ^ v + m % 2 ^ (v + 1) = a + m ∧ m % 2 ^ (v + 1) = 2 ^ v + m % 2 ^ v ∧ (128 + (e - 2 ^ v)) / 2 ^ v = 128 / 2 ^ v + (e - 2 ^ v) / 2 ^ v ∧ (e - 2 ^ v) / 2 ^ v * 2 ^ v = e - 2 ^ v ∧ ((e - 2 ^ v) / 2 ^ v + 1) * 2 ^ v ≤ n := by
    rcases (show v = 0 ∨ v = 1 ∨ v = 2 ∨ v = 3 ∨ v = 4 ∨ v = 5 ∨ v = 6 by omega) with rfl | rfl | rfl | rfl | rfl | rfl | rfl <;>
      rcases (show L = 0 ∨ L = 1 ∨ L = 2 ∨ L = 3 ∨ L = 4 ∨ L = 5 ∨ L = 6 ∨ L = 7 by omega) with rfl | rfl | rfl | rfl | rfl | rfl | rfl | rfl <;>
      simp only [Nat.reducePow, Nat.reduceAdd, Nat.reduceDiv] at * <;> omega
  obtain ⟨k1, k2, k3, k4, k5, k6, k7⟩ := k
  refine ⟨k1, k2, k3, ?_⟩
  have hg : g ((128 + (e - 2 ^ v)) / 2 ^ v) = th_rt f (e - 2 ^ v) (2 ^ v) := by
    rw [k5, hB v _ (by omega) k7, k6]
  rw [hg, k4]
  by_cases h0 : m % 2 ^ v = 0
  · rw [if_pos h0, h0, Nat.add_zero]
  · rw [if_neg h0, th_rt_b f (e - 2 ^ v) (by omega) (Nat.le_of_lt (Nat.mod_lt _ hp)), show e - 2 ^ v + 2 ^ v = e by omega]
theorem th_row_z {m v : Nat} (hb : m / 2 ^ v % 2 = 0) (hv : v < 7) : m % 2 ^ (v + 1) = m % 2 ^ v := by
  rcases (show v = 0 ∨ v = 1 ∨ v = 2 ∨ v = 3 ∨ v = 4 ∨ v = 5 ∨ v = 6 by omega) with rfl | rfl | rfl | rfl | rfl | rfl | rfl <;> simp only [Nat.reducePow, Nat.reduceAdd] at * <;> omega
theorem th_dec {a d : Nat} (h : d ≤ a) : nI a + Int32.ofInt (-(d : Int)) = nI (a - d) := by
  rw [show nI (a - d) = nI a - nI d from (pk_sub h).symm]
  have : Int32.ofInt (-(d : Int)) = - nI d := by
    rw [show nI d = Int32.ofInt (d : Int) from rfl, ← Int32.ofInt_neg]
  rw [this, Int32.sub_eq_add_neg]
theorem th_s5 : ∀ n, n < 32 → ((nI n &&& 31).toBitVec.smod 32).toNat = n := by decide +kernel
theorem th_sp_le {n k : Nat} (h : 2 ≤ n) (hk : n ≤ 2 ^ (k + 1)) : th_sp n ≤ 2 ^ k := by
  have h1 := th_sp_lt h
  obtain ⟨j, hj⟩ := th_sp_two n
  rw [hj] at h1 ⊢
  have h2 : j < k + 1 := (Nat.pow_lt_pow_iff_right (by decide : 1 < 2)).mp (Nat.lt_of_lt_of_le h1 hk)
  exact Nat.pow_le_pow_right (by decide) (by omega)

/-! the way to a leaf, as numbers: q = (first leaf of the row, its length, the leaf in it) -/
abbrev th_q3 : Type := Nat × Nat × Nat
def th_nx (q : th_q3) : th_q3 := if q.2.2 < th_sp q.2.1 then (q.1, th_sp q.2.1, q.2.2) else (q.1 + th_sp q.2.1, q.2.1 - th_sp q.2.1, q.2.2 - th_sp q.2.1)
def th_bf (q : th_q3) : Nat := if q.2.2 < th_sp q.2.1 then q.1 + th_sp q.2.1 else q.1
def th_bn (q : th_q3) : Nat := if q.2.2 < th_sp q.2.1 then q.2.1 - th_sp q.2.1 else th_sp q.2.1
/-- 1 where the row beside is of the first leaves -/
def th_fi (q : th_q3) : Int32 := if q.2.2 < th_sp q.2.1 then nI 0 else nI 1
theorem th_fi01 (q : th_q3) : th_fi q = 0 ∨ th_fi q = 1 := by
  unfold th_fi; split
  · exact Or.inl rfl
  · exact Or.inr rfl
def th_wa (q : th_q3) : Nat → th_q3
  | 0 => q
  | i + 1 => th_nx (th_wa q i)
/-- a row that lies in the first n leaves, by a power of two -/
def th_in3 (n : Nat) (q : th_q3) : Prop := q.2.2 < q.2.1 ∧ q.1 + q.2.1 ≤ n ∧ th_al q.1 q.2.1
theorem th_mod2 {a j L : Nat} (h : a % 2 ^ L = 0) (hj : j ≤ L) : a % 2 ^ j = 0 := by
  have h1 : 2 ^ L ∣ a := Nat.dvd_of_mod_eq_zero h
  exact Nat.mod_eq_zero_of_dvd (Nat.dvd_trans (Nat.pow_dvd_pow 2 hj) h1)
theorem th_in3_s {n k : Nat} {q : th_q3} (h : th_in3 n q) (h2 : 2 ≤ q.2.1) (hk : q.2.1 ≤ 2 ^ (k + 1)) : th_in3 n (th_nx q) ∧ (th_nx q).2.1 ≤ 2 ^ k ∧ th_al (th_bf q) (th_bn q) ∧ th_bf q + th_bn q ≤ n ∧ 1 ≤ th_bn q := by
  obtain ⟨F, N, T⟩ := q
  obtain ⟨h1, h3, L, hL, h4, h5⟩ := h
  dsimp only at h1 h3 h4 h5 h2 hk
  have s1 := th_sp_lt h2
  have s2 := th_sp_pos N
  have s3 := th_sp_ge h2
  have s4 := th_sp_le h2 hk
  obtain ⟨j, hj⟩ := th_sp_two N
  have hjL : j < L := (Nat.pow_lt_pow_iff_right (by decide : 1 < 2)).mp (by rw [← hj]; omega)
  have m1 : F % 2 ^ j = 0 := th_mod2 h5 (by omega)
  have m2 : (F + 2 ^ j) % 2 ^ j = 0 := by rw [Nat.add_mod_right]; exact m1
  have a1 : th_al F (th_sp N) := ⟨j, by omega, by rw [hj]; exact Nat.le_refl _, m1⟩
  have a2 : th_al (F + th_sp N) (N - th_sp N) := ⟨j, by omega, by rw [← hj]; omega, by rw [hj]; exact m2⟩
  unfold th_in3 th_nx th_bf th_bn
  dsimp only
  by_cases c : T < th_sp N
  · simp only [if_pos c]
    exact ⟨⟨c, by omega, a1⟩, s4, a2, by omega, by omega⟩
  · simp only [if_neg c]
    exact ⟨⟨by omega, by omega, a2⟩, by omega, a1, by omega, by omega⟩
/-- the first row that stops: at most 8 looks -/
def th_dF (P : th_q3 → Bool) : Nat → th_q3 → Nat
  | 0, _ => 0
  | k + 1, q => if P q then 0 else 1 + th_dF P k (th_nx q)
theorem th_wa_s (q : th_q3) : ∀ i, th_wa (th_nx q) i = th_wa q (i + 1)
  | 0 => rfl
  | i + 1 => by show th_nx (th_wa (th_nx q) i) = th_nx (th_wa q (i + 1)); rw [th_wa_s q i]
theorem th_dF_eq (P : th_q3 → Bool) : ∀ (k d : Nat) (q : th_q3), d < k → P (th_wa q d) = true → (∀ j, j < d → P (th_wa q j) = false) → th_dF P k q = d := by
  intro k
  induction k with
  | zero => intro d q h; omega
  | succ k ih =>
    intro d q hd h1 h2
    unfold th_dF
    cases d with
    | zero => exact if_pos (show P q = true from h1)
    | succ d =>
      have h0 : P q = false := h2 0 (by omega)
      rw [if_neg (by rw [h0]; decide), ih d (th_nx q) (by omega) (by rw [th_wa_s]; exact h1) (fun j hj => by rw [th_wa_s]; exact h2 (j + 1) (by omega))]
      omega
def th_sL (q : th_q3) : Bool := decide (q.2.1 ≤ 1)
def th_sG (q : th_q3) : Bool := decide (q.2.1 ≤ q.2.2 + 1)
/-- how many rows lie beside the way to a leaf; to the end of the first leaves -/
def th_dL (q : th_q3) : Nat := th_dF th_sL 8 q
def th_dG (q : th_q3) : Nat := th_dF th_sG 8 q
/-- along the way, as long as rows are split -/
theorem th_wa_in {n : Nat} {q : th_q3} (h : th_in3 n q) (hq : q.2.1 ≤ 128) : ∀ i, i ≤ 7 → (∀ j, j < i → 2 ≤ (th_wa q j).2.1) → th_in3 n (th_wa q i) ∧ (th_wa q i).2.1 ≤ 2 ^ (7 - i) := by
  intro i
  induction i with
  | zero => intro _ _; exact ⟨h, hq⟩
  | succ i ih =>
    intro hi hj
    obtain ⟨h1, h2⟩ := ih (by omega) (fun j hj' => hj j (by omega))
    have h3 := th_in3_s (k := 7 - (i + 1)) h1 (hj i (by omega)) (by rw [show 7 - (i + 1) + 1 = 7 - i by omega]; exact h2)
    exact ⟨h3.1, h3.2.1⟩
theorem th_wa_7 {n : Nat} {q : th_q3} (h : th_in3 n q) (hq : q.2.1 ≤ 128) {i : Nat} (hi : i ≤ 7) (hj : ∀ j, j < i → 2 ≤ (th_wa q j).2.1) (h2 : 2 ≤ (th_wa q i).2.1) : i < 7 := by
  rcases Nat.lt_or_ge i 7 with c | c
  · exact c
  · obtain rfl : i = 7 := by omega
    have h3 := (th_wa_in h hq 7 (by omega) hj).2
    simp only [Nat.sub_self, Nat.pow_zero] at h3
    omega
/-- the rows of a way: what the three arrays hold -/
def th_RW (fr le fi : Nat → Int32) (B N : Nat → Nat) (Fi : Nat → Int32) (r : Nat) : Prop := ∀ i, i < r → fr i = nI (B i) ∧ le i = nI (N i) ∧ fi i = Fi i
theorem th_RW_0 {fr le fi : Nat → Int32} {B N : Nat → Nat} {Fi : Nat → Int32} : th_RW fr le fi B N Fi 0 := fun i h => by omega
theorem th_RW_s {fr le fi : Nat → Int32} {B N : Nat → Nat} {Fi : Nat → Int32} {r : Nat} (h : th_RW fr le fi B N Fi r) {x y z : Int32} (hx : x = nI (B r)) (hy : y = nI (N r)) (hz : z = Fi r) : th_RW (upd fr r x) (upd le r y) (upd fi r z) B N Fi (r + 1) := by
  intro i hi
  by_cases c : i = r
  · subst c
    rw [pk_us, pk_us, pk_us]
    exact ⟨hx, hy, hz⟩
  · rw [pk_un c, pk_un c, pk_un c]
    exact h i (by omega)
/-- the rows beside the way to a leaf, and with the last row behind them -/
def th_B (q : th_q3) (i : Nat) : Nat := th_bf (th_wa q i)
def th_L (q : th_q3) (i : Nat) : Nat := th_bn (th_wa q i)
def th_F (q : th_q3) (i : Nat) : Int32 := th_fi (th_wa q i)
def th_gB (q : th_q3) (i : Nat) : Nat := if i < th_dG q then th_bf (th_wa q i) else (th_wa q i).1
def th_gL (q : th_q3) (i : Nat) : Nat := if i < th_dG q then th_bn (th_wa q i) else (th_wa q i).2.1
def th_gF (q : th_q3) (i : Nat) : Int32 := if i < th_dG q then th_fi (th_wa q i) else nI 0
/-- how many sums a growth proof has -/
def th_gR (q : th_q3) : Nat := if (th_wa q (th_dG q)).1 = 0 then th_dG q else th_dG q + 1
theorem th_stop {P : th_q3 → Bool} {n : Nat} {q : th_q3} (h : th_in3 n q) (hq : q.2.1 ≤ 128) (hP : ∀ z : th_q3, P z = false → z.2.2 < z.2.1 → 2 ≤ z.2.1) {i : Nat} (hi : i ≤ 7) (hj : ∀ j, j < i → P (th_wa q j) = false) : th_in3 n (th_wa q i) ∧ (th_wa q i).2.1 ≤ 2 ^ (7 - i) ∧ (∀ j, j < i → 2 ≤ (th_wa q j).2.1) ∧ (P (th_wa q i) = false → i < 7 ∧ 2 ≤ (th_wa q i).2.1) := by
  have h2 : ∀ k, k ≤ i → ∀ j, j < k → 2 ≤ (th_wa q j).2.1 := by
    intro k
    induction k with
    | zero => intro _ j hj0; omega
    | succ k ih =>
      intro hk j hjk
      rcases Nat.lt_or_ge j k with c | c
      · exact ih (by omega) j c
      · obtain rfl : j = k := by omega
        have h3 := (th_wa_in h hq j (by omega) (ih (by omega))).1
        exact hP _ (hj j (by omega)) h3.1
  have h4 := th_wa_in h hq i hi (h2 i (Nat.le_refl i))
  refine ⟨h4.1, h4.2, h2 i (Nat.le_refl i), fun hs => ?_⟩
  have h5 := hP _ hs h4.1.1
  exact ⟨th_wa_7 h hq hi (h2 i (Nat.le_refl i)) h5, h5⟩
theorem th_sL2 : ∀ z : th_q3, th_sL z = false → z.2.2 < z.2.1 → 2 ≤ z.2.1 := fun z h _ => by
  have := of_decide_eq_false h
  omega
theorem th_sG2 : ∀ z : th_q3, th_sG z = false → z.2.2 < z.2.1 → 2 ≤ z.2.1 := fun z h h2 => by
  have := of_decide_eq_false h
  omega
theorem th_gw1 {q : th_q3} {i : Nat} {fr le fi : Nat → Int32} (hd : th_dG q = i) (h : th_RW fr le fi (fun i => th_bf (th_wa q i)) (fun i => th_bn (th_wa q i)) (fun i => th_fi (th_wa q i)) i) : th_RW fr le fi (th_gB q) (th_gL q) (th_gF q) i := by
  intro j hj
  unfold th_gB th_gL th_gF
  rw [hd, if_pos hj, if_pos hj, if_pos hj]
  exact h j hj
theorem th_gw2 {q : th_q3} {i : Nat} {fr le fi : Nat → Int32} (hd : th_dG q = i) (h : th_RW fr le fi (fun i => th_bf (th_wa q i)) (fun i => th_bn (th_wa q i)) (fun i => th_fi (th_wa q i)) i) : th_RW (upd fr i (nI (th_wa q i).1)) (upd le i (nI (th_wa q i).2.1)) (upd fi i (nI 0)) (th_gB q) (th_gL q) (th_gF q) (i + 1) := by
  refine th_RW_s (th_gw1 hd h) ?_ ?_ ?_
  · unfold th_gB; rw [hd, if_neg (Nat.lt_irrefl i)]
  · unfold th_gL; rw [hd, if_neg (Nat.lt_irrefl i)]
  · unfold th_gF; rw [hd, if_neg (Nat.lt_irrefl i)]

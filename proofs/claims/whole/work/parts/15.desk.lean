/-! proofs: the rows of a way, and what is worked out from a row of sums -/
theorem th_least {P : th_q3 → Bool} {n : Nat} {q : th_q3} (h : th_in3 n q) (hq : q.2.1 ≤ 128) (hP : ∀ z : th_q3, P z = false → z.2.2 < z.2.1 → 2 ≤ z.2.1) : th_dF P 8 q ≤ 7 ∧ P (th_wa q (th_dF P 8 q)) = true ∧ ∀ j, j < th_dF P 8 q → P (th_wa q j) = false := by
  have hex : ∃ k, P (th_wa q k) = true := by
    rcases Classical.em (∃ k, P (th_wa q k) = true) with c | c
    · exact c
    · have hall : ∀ j, P (th_wa q j) = false := fun j => by
        cases hh : P (th_wa q j) with
        | false => rfl
        | true => exact absurd ⟨j, hh⟩ c
      have h7 := (th_stop h hq hP (Nat.le_refl 7) (fun j _ => hall j)).2.2.2 (hall 7)
      omega
  obtain ⟨d, hd1, hd2⟩ := pk_least _ hex
  have hd3 : ∀ j, j < d → P (th_wa q j) = false := fun j hj => by
    cases hh : P (th_wa q j) with
    | false => rfl
    | true => exact absurd hh (hd2 j hj)
  have hd7 : d ≤ 7 := by
    rcases Nat.lt_or_ge 7 d with c | c
    · have h7 := (th_stop h hq hP (Nat.le_refl 7) (fun j hj => hd3 j (by omega))).2.2.2 (hd3 7 c)
      omega
    · exact c
  rw [th_dF_eq P 8 d q (by omega) hd1 hd3]
  exact ⟨hd7, hd1, hd3⟩
theorem th_rowsP {P : th_q3 → Bool} {n : Nat} {q : th_q3} (h : th_in3 n q) (hq : q.2.1 ≤ 128) (hP : ∀ z : th_q3, P z = false → z.2.2 < z.2.1 → 2 ≤ z.2.1) {d i : Nat} (hd : d ≤ 7) (hj : ∀ j, j < d → P (th_wa q j) = false) (hi : i < d) : th_al (th_bf (th_wa q i)) (th_bn (th_wa q i)) ∧ th_bf (th_wa q i) + th_bn (th_wa q i) ≤ n ∧ 1 ≤ th_bn (th_wa q i) := by
  obtain ⟨k1, k2, k3, k4⟩ := th_stop h hq hP (show i ≤ 7 by omega) (fun j hj' => hj j (by omega))
  obtain ⟨k5, k6⟩ := k4 (hj i hi)
  have h3 := th_in3_s (k := 7 - (i + 1)) k1 k6 (by rw [show 7 - (i + 1) + 1 = 7 - i by omega]; exact k2)
  exact ⟨h3.2.2.1, h3.2.2.2.1, h3.2.2.2.2⟩
theorem th_rowsL {n : Nat} {q : th_q3} (h : th_in3 n q) (hq : q.2.1 ≤ 128) : th_dL q ≤ 7 ∧ ∀ i, i < th_dL q → th_al (th_B q i) (th_L q i) ∧ th_B q i + th_L q i ≤ n := by
  obtain ⟨h1, -, h3⟩ := th_least h hq th_sL2
  exact ⟨h1, fun i hi => ⟨(th_rowsP h hq th_sL2 h1 h3 hi).1, (th_rowsP h hq th_sL2 h1 h3 hi).2.1⟩⟩
theorem th_rowsG {n : Nat} {q : th_q3} (h : th_in3 n q) (hq : q.2.1 ≤ 128) : th_gR q ≤ 8 ∧ th_dG q ≤ 7 ∧ ∀ i, i < th_gR q → th_al (th_gB q i) (th_gL q i) ∧ th_gB q i + th_gL q i ≤ n := by
  obtain ⟨h1, h2, h3⟩ := th_least h hq th_sG2
  have e : th_dF th_sG 8 q = th_dG q := rfl
  rw [e] at h1 h2 h3
  refine ⟨?_, h1, fun i hi => ?_⟩
  · unfold th_gR; split <;> omega
  · unfold th_gB th_gL
    rcases Nat.lt_or_ge i (th_dG q) with c | c
    · rw [if_pos c, if_pos c]
      exact ⟨(th_rowsP h hq th_sG2 h1 h3 c).1, (th_rowsP h hq th_sG2 h1 h3 c).2.1⟩
    · have hi2 : i = th_dG q := by
        unfold th_gR at hi
        split at hi <;> omega
      rw [if_neg (by omega), if_neg (by omega), hi2]
      have k := (th_stop h hq th_sG2 h1 h3).1
      exact ⟨k.2.2, k.2.1⟩
theorem th_F01 (q : th_q3) (i : Nat) : th_F q i = 0 ∨ th_F q i = 1 := th_fi01 _
theorem th_gF01 (q : th_q3) (i : Nat) : th_gF q i = 0 ∨ th_gF q i = 1 := by
  unfold th_gF; split
  · exact th_fi01 _
  · exact Or.inl rfl
/-- the sums of a proof: the last row's root first -/
def th_pS (f : Nat → Int32) (B N : Nat → Nat) (R j : Nat) : Int32 := th_rt f (B (R - 1 - j)) (N (R - 1 - j))
/-- what is worked out from the sums, k of them from k0 on -/
def th_fd (R : Nat) (Fi ds : Nat → Int32) (k0 : Nat) (x : Int32) : Nat → Int32
  | 0 => x
  | k + 1 => if Fi (R - 1 - (k0 + k)) = 0 then th_mx (th_fd R Fi ds k0 x k) (ds (k0 + k)) else th_mx (ds (k0 + k)) (th_fd R Fi ds k0 x k)
def th_fo (R : Nat) (Fi ds : Nat → Int32) (k0 : Nat) (x : Int32) : Nat → Int32
  | 0 => x
  | k + 1 => if Fi (R - 1 - (k0 + k)) = 0 then th_fo R Fi ds k0 x k else th_mx (ds (k0 + k)) (th_fo R Fi ds k0 x k)
/-! the map: the levels of its sums -/
def th_lv (kv : Nat → Int32) : Nat → Nat → Int32
  | 0, i => th_ks (kv i)
  | L + 1, i => th_jn (th_lv kv L (2 * i)) (th_lv kv L (2 * i + 1))
def th_MI (kv ks : Nat → Int32) : Prop := ∀ L i : Nat, L ≤ 6 → i < 64 / 2 ^ L → ks (64 / 2 ^ L + i) = th_lv kv L i
theorem th_lv_ne (kv : Nat → Int32) (key : Nat) (v : Int32) : ∀ L i : Nat, i ≠ key / 2 ^ L → th_lv (upd kv key v) L i = th_lv kv L i := by
  intro L
  induction L with
  | zero =>
    intro i h
    rw [Nat.pow_zero, Nat.div_one] at h
    unfold th_lv
    rw [pk_un h]
  | succ L ih =>
    intro i h
    have e : key / 2 ^ (L + 1) = key / 2 ^ L / 2 := by rw [Nat.pow_succ, Nat.div_div_eq_div_mul]
    rw [e] at h
    show th_jn _ _ = th_jn _ _
    rw [ih (2 * i) (by omega), ih (2 * i + 1) (by omega)]
/-- the sums of the map while a key's way is renewed: up to level v -/
def th_MJ (kv ks : Nat → Int32) (key v : Nat) : Prop := ∀ L i : Nat, L ≤ 6 → i < 64 / 2 ^ L → (L ≤ v ∨ i ≠ key / 2 ^ L) → ks (64 / 2 ^ L + i) = th_lv kv L i
theorem th_MJ_0 {kv ks : Nat → Int32} {key : Nat} (v : Int32) (hk : key < 64) (h : th_MI kv ks) : th_MJ (upd kv key v) (upd ks (64 + key) (th_ks v)) key 0 := by
  intro L i hL hi hc
  by_cases hx : 64 / 2 ^ L + i = 64 + key
  · have hL0 : L = 0 := by
      rcases (show L = 0 ∨ L = 1 ∨ L = 2 ∨ L = 3 ∨ L = 4 ∨ L = 5 ∨ L = 6 by omega) with rfl | rfl | rfl | rfl | rfl | rfl | rfl <;> first | rfl | (exfalso; simp only [Nat.reducePow, Nat.reduceDiv] at hx hi; omega)
    subst hL0
    have hi2 : i = key := by simp only [Nat.pow_zero, Nat.div_one] at hx; omega
    subst hi2
    rw [hx, pk_us]
    unfold th_lv
    rw [pk_us]
  · rw [pk_un hx, h L i hL hi]
    refine (th_lv_ne kv key v L i ?_).symm
    rcases hc with hc | hc
    · obtain rfl : L = 0 := by omega
      simp only [Nat.pow_zero, Nat.div_one] at hx ⊢
      omega
    · exact hc
theorem th_MJ_s {kv ks : Nat → Int32} {key v q : Nat} (hk : key < 64) (hv : v < 6) (h : th_MJ kv ks key v) (hq : q = (64 + key) / 2 ^ v) : th_MJ kv (upd ks (q / 2) (th_jn (ks (2 * (q / 2))) (ks (2 * (q / 2) + 1)))) key (v + 1) ∧ q / 2 = (64 + key) / 2 ^ (v + 1) ∧ q < 128 ∧ 1 ≤ q / 2 := by
  have e1 : q / 2 = (64 + key) / 2 ^ (v + 1) := by rw [hq, Nat.div_div_eq_div_mul, Nat.pow_succ]
  have e2 : q < 128 ∧ 1 ≤ q / 2 ∧ q / 2 = 64 / 2 ^ (v + 1) + key / 2 ^ (v + 1) ∧ 2 * (q / 2) = 64 / 2 ^ v + 2 * (key / 2 ^ (v + 1)) ∧ key / 2 ^ (v + 1) < 64 / 2 ^ (v + 1) ∧ 2 * (key / 2 ^ (v + 1)) + 1 < 64 / 2 ^ v := by
    rcases (show v = 0 ∨ v = 1 ∨ v = 2 ∨ v = 3 ∨ v = 4 ∨ v = 5 by omega) with rfl | rfl | rfl | rfl | rfl | rfl <;> simp only [Nat.reducePow, Nat.reduceAdd, Nat.reduceDiv] at hq ⊢ <;> omega
  obtain ⟨h1, h2, h3, h4, h5, h6⟩ := e2
  refine ⟨?_, e1, h1, h2⟩
  intro L i hL hi hc
  by_cases hx : 64 / 2 ^ L + i = q / 2
  · have hL1 : L = v + 1 := by
      rw [h3] at hx
      rcases (show v = 0 ∨ v = 1 ∨ v = 2 ∨ v = 3 ∨ v = 4 ∨ v = 5 by omega) with rfl | rfl | rfl | rfl | rfl | rfl <;>
        rcases (show L = 0 ∨ L = 1 ∨ L = 2 ∨ L = 3 ∨ L = 4 ∨ L = 5 ∨ L = 6 by omega) with rfl | rfl | rfl | rfl | rfl | rfl | rfl <;>
        first | rfl | (exfalso; simp only [Nat.reducePow, Nat.reduceAdd, Nat.reduceDiv] at hx hi h5; omega)
    subst hL1
    have hi2 : i = key / 2 ^ (v + 1) := by omega
    subst hi2
    rw [hx, pk_us, h4, Nat.add_assoc, h v _ (by omega) (by omega) (Or.inl (Nat.le_refl v)), h v _ (by omega) h6 (Or.inl (Nat.le_refl v))]
    rfl
  · rw [pk_un hx]
    refine h L i hL hi ?_
    rcases hc with hc | hc
    · rcases Nat.lt_or_ge v L with c | c
      · obtain rfl : L = v + 1 := by omega
        refine Or.inr (fun z => hx ?_)
        rw [h3, z]
      · exact Or.inl c
    · exact Or.inr hc
theorem th_MJ_e {kv ks : Nat → Int32} {key v : Nat} (hv : 6 ≤ v) (h : th_MJ kv ks key v) : th_MI kv ks := fun L i hL hi => h L i hL hi (Or.inl (by omega))
theorem th_xor1 : ∀ a, a < 128 → nI a ^^^ nI 1 = nI (a ^^^ 1) := by decide +kernel
theorem th_xorK : ∀ key, key < 64 → ∀ L, L < 6 → (64 + key) / 2 ^ L ^^^ 1 = 64 / 2 ^ L + (key / 2 ^ L ^^^ 1) ∧ (key / 2 ^ L ^^^ 1) < 64 / 2 ^ L := by decide +kernel
theorem th_ext2 {α : Type} {f g : Nat → α} {n : Nat} (h : ∀ i, i < n → f i = g i) (x : α → Prop) : (∀ i, i < n → x (f i)) ↔ ∀ i, i < n → x (g i) := ⟨fun k i hi => h i hi ▸ k i hi, fun k i hi => (h i hi).symm ▸ k i hi⟩
/-- 1 if so, else 0 -/
noncomputable def th_b (P : Prop) : Int32 := @ite _ P (Classical.propDecidable P) (nI 1) (nI 0)
theorem th_bT {P : Prop} (h : P) : th_b P = nI 1 := @if_pos _ (Classical.propDecidable P) h _ _ _
theorem th_bF {P : Prop} (h : ¬ P) : th_b P = nI 0 := @if_neg _ (Classical.propDecidable P) h _ _ _
theorem th_b01 (P : Prop) : th_b P = 0 ∨ th_b P = 1 := by
  rcases Classical.em P with h | h
  · exact Or.inr (th_bT h)
  · exact Or.inl (th_bF h)
def th_kf (key : Nat) (ds : Nat → Int32) (x : Int32) : Nat → Int32
  | 0 => x
  | k + 1 => if key / 2 ^ k % 2 = 1 then th_jn (ds k) (th_kf key ds x k) else th_jn (th_kf key ds x k) (ds k)
/-- a leaf's proof is accepted -/
def th_aL (q : th_q3) (cnt : Nat) (ds : Nat → Int32) (x root : Int32) : Prop := cnt = th_dL q ∧ th_fd (th_dL q) (th_F q) ds 0 x (th_dL q) = root
/-- a growth proof is accepted -/
def th_aG (q : th_q3) (cnt : Nat) (ds : Nat → Int32) (old root : Int32) : Prop := cnt = th_gR q ∧ ((th_wa q (th_dG q)).1 = 0 → th_fo (th_gR q) (th_gF q) ds 0 old (th_gR q) = old ∧ th_fd (th_gR q) (th_gF q) ds 0 old (th_gR q) = root) ∧ ((th_wa q (th_dG q)).1 ≠ 0 → th_fo (th_gR q) (th_gF q) ds 1 (ds 0) (th_gR q - 1) = old ∧ th_fd (th_gR q) (th_gF q) ds 1 (ds 0) (th_gR q - 1) = root)
theorem th_fd_s {R : Nat} {Fi ds : Nat → Int32} {k0 k : Nat} {x y : Int32} (hx : y = th_fd R Fi ds k0 x k) : (Fi (R - 1 - (k0 + k)) = 0 → th_mx y (ds (k0 + k)) = th_fd R Fi ds k0 x (k + 1)) ∧ (¬ Fi (R - 1 - (k0 + k)) = 0 → th_mx (ds (k0 + k)) y = th_fd R Fi ds k0 x (k + 1)) := by
  subst hx
  exact ⟨fun h => (if_pos h).symm, fun h => (if_neg h).symm⟩
theorem th_fo_s {R : Nat} {Fi ds : Nat → Int32} {k0 k : Nat} {x y : Int32} (hx : y = th_fo R Fi ds k0 x k) : (Fi (R - 1 - (k0 + k)) = 0 → y = th_fo R Fi ds k0 x (k + 1)) ∧ (¬ Fi (R - 1 - (k0 + k)) = 0 → th_mx (ds (k0 + k)) y = th_fo R Fi ds k0 x (k + 1)) := by
  subst hx
  exact ⟨fun h => (if_pos h).symm, fun h => (if_neg h).symm⟩

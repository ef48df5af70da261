/-! what each call answers: (place of the exception, 0 for none; the answer; the state behind it), out of the state
    S = (views, their sizes, their values, sums on the desk, these, the keys' values, the view each watcher keeps, its size, root, alarm, followed value, count) -/
abbrev th_S : Type := Nat × (Nat → Nat) × (Nat → Nat → Int32) × Nat × (Nat → Int32) × (Nat → Int32) × (Nat → Option Nat) × (Nat → Nat → Int32)
abbrev th_R : Type := Nat × Int32 × th_S
noncomputable def th_if (P : Prop) (a b : th_R) : th_R := @ite _ P (Classical.propDecidable P) a b
theorem th_ifT {P : Prop} {a b : th_R} (h : P) : th_if P a b = a := @if_pos _ (Classical.propDecidable P) h _ _ _
theorem th_ifF {P : Prop} {a b : th_R} (h : ¬ P) : th_if P a b = b := @if_neg _ (Classical.propDecidable P) h _ _ _
/-- a number from lo to below hi -/
def th_ir (x : Int32) (lo hi : Nat) : Prop := ∃ j : Nat, lo ≤ j ∧ j < hi ∧ x = nI j
def th_ix (x : Int32) : Nat := x.toNatClampNeg
theorem th_ixN {j : Nat} (h : j < 2147483648) : th_ix (nI j) = j := nI_clamp h
theorem th_irN {j lo hi : Nat} (h1 : lo ≤ j) (h2 : j < hi) : th_ir (nI j) lo hi := ⟨j, h1, h2, rfl⟩
theorem th_irI {j lo hi : Nat} (hj : j < 2147483648) (hh : hi ≤ 2147483648) (h : th_ir (nI j) lo hi) : lo ≤ j ∧ j < hi := by
  obtain ⟨k, h1, h2, h3⟩ := h
  have := (nI_eq hj (by omega)).mp h3
  omega
/-- from the two comparisons -/
theorem th_irO {x : Int32} {lo hi : Nat} (hlo : lo < 2147483648) (hh : hi < 2147483648) (h1 : nI lo ≤ x) (h2 : x ≤ nI hi) : th_ir x lo (hi + 1) := by
  have hx : ¬ x < 0 := by
    rw [Int32.le_iff_toInt_le, nI_toInt hlo] at h1
    rw [Int32.lt_iff_toInt_lt, Int32.toInt_zero]
    omega
  obtain ⟨j, hj, rfl⟩ := nI_of hx
  exact ⟨j, (nI_leI hlo hj).mp h1, Nat.lt_succ_of_le ((nI_leI hj hh).mp h2), rfl⟩
theorem th_irB {x : Int32} {lo hi : Nat} (hlo : lo < 2147483648) (hh : hi < 2147483648) (h : th_ir x lo (hi + 1)) : nI lo ≤ x ∧ x ≤ nI hi := by
  obtain ⟨j, h1, h2, rfl⟩ := h
  exact ⟨(nI_leI hlo (by omega)).mpr h1, (nI_leI (by omega) hh).mpr (by omega)⟩
section
variable (S : th_S)
def th_sV (i n : Nat) (f : Nat → Int32) : th_S := (S.1, va_up S.2.1 i n, va_up S.2.2.1 i f, S.2.2.2)
def th_sD (n : Nat) (d : Nat → Int32) : th_S := (S.1, S.2.1, S.2.2.1, n, d, S.2.2.2.2.2)
def th_sM (kv : Nat → Int32) : th_S := (S.1, S.2.1, S.2.2.1, S.2.2.2.1, S.2.2.2.2.1, kv, S.2.2.2.2.2.2)
def th_sW (w : Nat) (k : Option Nat) (f : Nat → Int32) : th_S := (S.1, S.2.1, S.2.2.1, S.2.2.2.1, S.2.2.2.2.1, S.2.2.2.2.2.1, va_up S.2.2.2.2.2.2.1 w k, va_up S.2.2.2.2.2.2.2 w f)
def th_sF (i n : Nat) : th_S := (S.1 + 1, va_up S.2.1 S.1 n, va_up S.2.2.1 S.1 (S.2.2.1 i), S.2.2.2)
def th_row (f : Nat → Int32) (n a m : Nat) : Nat → Int32 := fun j => if n ≤ j ∧ j < n + m then nI (a + (j - n)) else f j
noncomputable def sp_append (x1 x2 : Int32) : th_R := th_if (th_ir x1 0 S.1) (th_if (th_ir x2 0 65536) (th_if (S.2.1 (th_ix x1) < 100) (0, nI (S.2.1 (th_ix x1)), th_sV S (th_ix x1) (S.2.1 (th_ix x1) + 1) (upd (S.2.2.1 (th_ix x1)) (S.2.1 (th_ix x1)) x2)) (3, 0, S)) (2, 0, S)) (1, 0, S)
noncomputable def sp_appendRow (x1 x2 x3 : Int32) : th_R := th_if (th_ir x1 0 S.1) (th_if (th_ir x3 1 41 ∧ th_ir x2 0 (65537 - th_ix x3)) (th_if (S.2.1 (th_ix x1) + th_ix x3 ≤ 100) (0, nI (S.2.1 (th_ix x1) + th_ix x3), th_sV S (th_ix x1) (S.2.1 (th_ix x1) + th_ix x3) (th_row (S.2.2.1 (th_ix x1)) (S.2.1 (th_ix x1)) (th_ix x2) (th_ix x3))) (3, 0, S)) (2, 0, S)) (1, 0, S)
noncomputable def sp_fork (x1 x2 : Int32) : th_R := th_if (th_ir x1 0 S.1) (th_if (th_ir x2 0 (S.2.1 (th_ix x1) + 1)) (th_if (S.1 < 3) (0, nI S.1, th_sF S (th_ix x1) (th_ix x2)) (3, 0, S)) (2, 0, S)) (1, 0, S)
noncomputable def sp_views : th_R := (0, nI S.1, S)
noncomputable def sp_size (x1 : Int32) : th_R := th_if (th_ir x1 0 S.1) (0, nI (S.2.1 (th_ix x1)), S) (1, 0, S)
noncomputable def sp_leaf (x1 x2 : Int32) : th_R := th_if (th_ir x1 0 S.1 ∧ th_ir x2 0 (S.2.1 (th_ix x1))) (0, S.2.2.1 (th_ix x1) (th_ix x2), S) (1, 0, S)
noncomputable def sp_root (x1 x2 : Int32) : th_R := th_if (th_ir x1 0 S.1) (th_if (th_ir x2 0 (S.2.1 (th_ix x1) + 1)) (0, th_rt (S.2.2.1 (th_ix x1)) 0 (th_ix x2), S) (2, 0, S)) (1, 0, S)
def th_qL (x2 x3 : Int32) : th_q3 := (0, th_ix x3, th_ix x2)
def th_qG (x2 x3 : Int32) : th_q3 := (0, th_ix x3, th_ix x2 - 1)
noncomputable def sp_loadLeaf (x1 x2 x3 : Int32) : th_R := th_if (th_ir x1 0 S.1) (th_if (th_ir x3 1 (S.2.1 (th_ix x1) + 1) ∧ th_ir x2 0 (th_ix x3)) (0, nI (th_dL (th_qL x2 x3)), th_sD S (th_dL (th_qL x2 x3)) (th_pS (S.2.2.1 (th_ix x1)) (th_B (th_qL x2 x3)) (th_L (th_qL x2 x3)) (th_dL (th_qL x2 x3)))) (2, 0, S)) (1, 0, S)
noncomputable def sp_loadGrowth (x1 x2 x3 : Int32) : th_R := th_if (th_ir x1 0 S.1) (th_if (th_ir x3 1 (S.2.1 (th_ix x1) + 1) ∧ th_ir x2 1 (th_ix x3 + 1)) (0, nI (th_gR (th_qG x2 x3)), th_sD S (th_gR (th_qG x2 x3)) (th_pS (S.2.2.1 (th_ix x1)) (th_gB (th_qG x2 x3)) (th_gL (th_qG x2 x3)) (th_gR (th_qG x2 x3)))) (2, 0, S)) (1, 0, S)
noncomputable def sp_loadKey (x1 : Int32) : th_R := th_if (th_ir x1 0 64) (0, nI 6, th_sD S 6 (fun k => th_lv S.2.2.2.2.2.1 k (th_ix x1 / 2 ^ k ^^^ 1))) (1, 0, S)
def th_chN (q : Nat) : Nat := if q = S.2.2.2.1 then S.2.2.2.1 + 1 else S.2.2.2.1
noncomputable def sp_change (x1 x2 : Int32) : th_R := th_if (th_ir x1 0 (S.2.2.2.1 + 1)) (th_if (th_ir x2 0 1000003) (th_if (th_ix x1 < 12) (0, nI (th_chN S (th_ix x1)), th_sD S (th_chN S (th_ix x1)) (upd S.2.2.2.2.1 (th_ix x1) x2)) (3, 0, S)) (2, 0, S)) (1, 0, S)
noncomputable def sp_shorten : th_R := th_if (1 ≤ S.2.2.2.1) (0, S.2.2.2.2.1 (S.2.2.2.1 - 1), th_sD S (S.2.2.2.1 - 1) S.2.2.2.2.1) (1, 0, S)
noncomputable def sp_sums : th_R := (0, nI S.2.2.2.1, S)
noncomputable def sp_sumAt (x1 : Int32) : th_R := th_if (th_ir x1 0 S.2.2.2.1) (0, S.2.2.2.2.1 (th_ix x1), S) (1, 0, S)
noncomputable def sp_testLeaf (x1 x2 x3 x4 : Int32) : th_R := th_if (th_ir x1 0 S.1) (th_if (th_ir x2 0 65536 ∧ th_ir x4 1 (S.2.1 (th_ix x1) + 1) ∧ th_ir x3 0 (th_ix x4)) (0, th_b (th_aL (th_qL x3 x4) S.2.2.2.1 S.2.2.2.2.1 (th_ls x2) (th_rt (S.2.2.1 (th_ix x1)) 0 (th_ix x4))), S) (2, 0, S)) (1, 0, S)
noncomputable def sp_testGrowth (x1 x2 x3 x4 : Int32) : th_R := th_if (th_ir x1 0 S.1 ∧ th_ir x3 0 S.1) (th_if (th_ir x4 1 (S.2.1 (th_ix x3) + 1) ∧ th_ir x2 1 (th_ix x4 + 1) ∧ th_ir x2 1 (S.2.1 (th_ix x1) + 1)) (0, th_b (th_aG (th_qG x2 x4) S.2.2.2.1 S.2.2.2.2.1 (th_rt (S.2.2.1 (th_ix x1)) 0 (th_ix x2)) (th_rt (S.2.2.1 (th_ix x3)) 0 (th_ix x4))), S) (2, 0, S)) (1, 0, S)
noncomputable def sp_testKey (x1 x2 : Int32) : th_R := th_if (th_ir x1 0 64 ∧ (x2 = -1 ∨ th_ir x2 0 65536)) (0, th_b (S.2.2.2.1 = 6 ∧ th_kf (th_ix x1) S.2.2.2.2.1 (th_ks x2) 6 = th_lv S.2.2.2.2.2.1 6 0), S) (1, 0, S)
noncomputable def sp_put (x1 x2 : Int32) : th_R := th_if (th_ir x1 0 64 ∧ th_ir x2 0 65536) (0, S.2.2.2.2.2.1 (th_ix x1), th_sM S (upd S.2.2.2.2.2.1 (th_ix x1) x2)) (1, 0, S)
noncomputable def sp_remove (x1 : Int32) : th_R := th_if (th_ir x1 0 64) (0, S.2.2.2.2.2.1 (th_ix x1), th_sM S (upd S.2.2.2.2.2.1 (th_ix x1) (-1))) (1, 0, S)
noncomputable def sp_get (x1 : Int32) : th_R := th_if (th_ir x1 0 64) (0, S.2.2.2.2.2.1 (th_ix x1), S) (1, 0, S)
noncomputable def sp_mapRoot : th_R := (0, th_lv S.2.2.2.2.2.1 6 0, S)
/-- the head is taken -/
def th_tk (w v : Nat) : Prop := S.2.2.2.2.2.2.1 w = none ∨ (th_ix (S.2.2.2.2.2.2.2 w 0) ≤ S.2.1 v ∧ th_rt (S.2.2.1 v) 0 (th_ix (S.2.2.2.2.2.2.2 w 0)) = S.2.2.2.2.2.2.2 w 1)
def th_lo (w : Nat) : Nat := match S.2.2.2.2.2.2.1 w with
  | none => 0
  | some _ => th_ix (S.2.2.2.2.2.2.2 w 0)
noncomputable def sp_show (x1 x2 : Int32) : th_R := th_if (th_ir x1 0 4 ∧ th_ir x2 0 S.1) (th_if (th_tk S (th_ix x1) (th_ix x2))
  (0, nI 1, th_sW S (th_ix x1) (some (th_ix x2)) (th_w5 (nI (S.2.1 (th_ix x2))) (th_rt (S.2.2.1 (th_ix x2)) 0 (S.2.1 (th_ix x2))) (S.2.2.2.2.2.2.2 (th_ix x1) 2) (S.2.2.2.2.2.2.2 (th_ix x1) 3) (th_cf (S.2.2.1 (th_ix x2)) (S.2.2.2.2.2.2.2 (th_ix x1) 3) (S.2.2.2.2.2.2.2 (th_ix x1) 4) (th_lo S (th_ix x1)) (S.2.1 (th_ix x2) - th_lo S (th_ix x1)))))
  (0, nI 0, th_sW S (th_ix x1) (S.2.2.2.2.2.2.1 (th_ix x1)) (th_w5 (S.2.2.2.2.2.2.2 (th_ix x1) 0) (S.2.2.2.2.2.2.2 (th_ix x1) 1) (nI 1) (S.2.2.2.2.2.2.2 (th_ix x1) 3) (S.2.2.2.2.2.2.2 (th_ix x1) 4)))) (1, 0, S)
/-- the heads of two watchers fit -/
def th_ft (a b : Nat) : Prop := a = b ∨ ∀ i j : Nat, S.2.2.2.2.2.2.1 a = some i → S.2.2.2.2.2.2.1 b = some j →
  (th_ix (S.2.2.2.2.2.2.2 b 0) ≤ th_ix (S.2.2.2.2.2.2.2 a 0) → th_rt (S.2.2.1 i) 0 (th_ix (S.2.2.2.2.2.2.2 b 0)) = S.2.2.2.2.2.2.2 b 1) ∧
  (¬ th_ix (S.2.2.2.2.2.2.2 b 0) ≤ th_ix (S.2.2.2.2.2.2.2 a 0) → th_rt (S.2.2.1 j) 0 (th_ix (S.2.2.2.2.2.2.2 a 0)) = S.2.2.2.2.2.2.2 a 1)
def th_sA (w : Nat) : th_S := th_sW S w (S.2.2.2.2.2.2.1 w) (th_w5 (S.2.2.2.2.2.2.2 w 0) (S.2.2.2.2.2.2.2 w 1) (nI 1) (S.2.2.2.2.2.2.2 w 3) (S.2.2.2.2.2.2.2 w 4))
noncomputable def sp_gossip (x1 x2 : Int32) : th_R := th_if (th_ir x1 0 4 ∧ th_ir x2 0 4) (th_if (th_ft S (th_ix x1) (th_ix x2)) (0, nI 1, S) (0, nI 0, th_sA (th_sA S (th_ix x1)) (th_ix x2))) (1, 0, S)
noncomputable def sp_follow (x1 x2 : Int32) : th_R := th_if (th_ir x1 0 4) (th_if (th_ir x2 0 65536) (0, 0, th_sW S (th_ix x1) (S.2.2.2.2.2.2.1 (th_ix x1)) (th_w5 (S.2.2.2.2.2.2.2 (th_ix x1) 0) (S.2.2.2.2.2.2.2 (th_ix x1) 1) (S.2.2.2.2.2.2.2 (th_ix x1) 2) x2 (nI 0))) (2, 0, S)) (1, 0, S)
noncomputable def sp_isAlarmed (x1 : Int32) : th_R := th_if (th_ir x1 0 4) (0, S.2.2.2.2.2.2.2 (th_ix x1) 2, S) (1, 0, S)
noncomputable def sp_keptSize (x1 : Int32) : th_R := th_if (th_ir x1 0 4) (0, S.2.2.2.2.2.2.2 (th_ix x1) 0, S) (1, 0, S)
noncomputable def sp_keptRoot (x1 : Int32) : th_R := th_if (th_ir x1 0 4) (0, S.2.2.2.2.2.2.2 (th_ix x1) 1, S) (1, 0, S)
noncomputable def sp_counted (x1 : Int32) : th_R := th_if (th_ir x1 0 4) (0, S.2.2.2.2.2.2.2 (th_ix x1) 4, S) (1, 0, S)
end

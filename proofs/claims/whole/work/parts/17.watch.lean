/-- how many of d leaves from lo on have the value fo, counted on from x -/
def th_cf (f : Nat → Int32) (fo x : Int32) (lo : Nat) : Nat → Int32
  | 0 => x
  | d + 1 => if f (lo + d) = fo then th_cf f fo x lo d + nI 1 else th_cf f fo x lo d
theorem th_cf_no {f : Nat → Int32} {fo x : Int32} {lo : Nat} : ∀ d, (∀ i, i < d → f (lo + i) ≠ fo) → th_cf f fo x lo d = x
  | 0, _ => rfl
  | d + 1, h => by
    show (if f (lo + d) = fo then _ else _) = _
    rw [if_neg (h d (by omega))]
    exact th_cf_no d (fun i hi => h i (by omega))
theorem th_cf_s {f : Nat → Int32} {fo x y : Int32} {lo i : Nat} (h : lo ≤ i) (hy : y = th_cf f fo x lo (i - lo)) : (f i = fo → y + nI 1 = th_cf f fo x lo (i + 1 - lo)) ∧ (¬ f i = fo → y = th_cf f fo x lo (i + 1 - lo)) := by
  have e : i + 1 - lo = (i - lo) + 1 := by omega
  have e2 : lo + (i - lo) = i := by omega
  have e3 : th_cf f fo x lo (i - lo + 1) = if f (lo + (i - lo)) = fo then th_cf f fo x lo (i - lo) + nI 1 else th_cf f fo x lo (i - lo) := rfl
  subst hy
  rw [e, e3, e2]
  exact ⟨fun z => (if_pos z).symm, fun z => (if_neg z).symm⟩

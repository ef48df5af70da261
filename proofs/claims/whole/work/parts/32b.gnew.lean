theorem th_gdomS {Y : th_Y} {ad : Nat → Nat} {nv cnt : Nat} {sz : Nat → Nat} {V B : Nat → Nat → Int32} {ds kv ks : Nat → Int32} {wy : Nat → Nat} {wz : Nat → Nat → Int32} {K : Nat → Option Nat} {W : Nat → Nat → Int32} {k : Nat} {x : va_E} (h : th_gS Y ad nv sz V B cnt ds wy wz kv ks K W k = some x) : k < 16 + 3 * nv := th_gdom (by rw [h]; exact fun z => nomatch z)
/-- a new gallery's state -/
def th_S0 : th_S := (1, fun _ => 0, fun _ _ => nI 0, 0, fun _ => nI 0, fun _ => -1, fun _ => none, fun _ => th_w5 (-1) (-1) (nI 0) (-1) (nI 0))
def th_pi (k : Nat) : Nat := if k < 12 then k else if k < 16 then k + 3 else k - 4
theorem th_pi_inj {i j : Nat} (hi : i < 19) (hj : j < 19) (h : th_pi i = th_pi j) : i = j := by
  unfold th_pi at h
  split at h <;> split at h <;> (try split at h) <;> (try split at h) <;> omega
theorem th_GWnew {Y : th_Y} {A : Nat → Prop} {H : Heap} {g vr wr dk sm y a1 a2 a3 mp kva ksa w0 w1 w2 w3 v va vb : Nat} {kv : Nat → Int32} (hkv : ∀ i, i < 64 → kv i = -1) (hP : va_P Y.1 vwCl [(g, .inr (5, [.ref vr, .ref wr, .ref dk, .ref mp, .int (nI 1)])), (vr, .inl (Y.2 2, 3, .inr (.inr (.inr (.inr (va_up (fun _ => none) 0 (some v))))))), (wr, .inl (Y.2 3, 4, .inr (.inr (.inr (.inr (va_up (va_up (va_up (va_up (fun _ => none) 0 (some w0)) 1 (some w1)) 2 (some w2)) 3 (some w3))))))), (dk, .inr (0, [.int (nI 0), .ref sm, .ref y])), (sm, .inl (Y.2 0, 12, .inl (fun _ => nI 0))), (y, .inr (4, [.int (nI 0), .ref a1, .ref a2, .ref a3, .int (nI 0), .int (nI 0), .int (nI 0)])), (a1, .inl (Y.2 0, 12, .inl (fun _ => nI 0))), (a2, .inl (Y.2 0, 12, .inl (fun _ => nI 0))), (a3, .inl (Y.2 1, 12, .inl (fun _ => nI 0))), (mp, .inr (1, [.ref kva, .ref ksa])), (kva, .inl (Y.2 0, 64, .inl kv)), (ksa, .inl (Y.2 0, 128, .inl (fun _ => nI 0))), (v, .inr (2, [.int (nI 0), .ref va, .ref vb])), (va, .inl (Y.2 0, 100, .inl (fun _ => nI 0))), (vb, .inl (Y.2 0, 256, .inl (fun _ => nI 0))), (w0, .inr (3, [.null, .int (-1), .int (-1), .int (nI 0), .int (-1), .int (nI 0)])), (w1, .inr (3, [.null, .int (-1), .int (-1), .int (nI 0), .int (-1), .int (nI 0)])), (w2, .inr (3, [.null, .int (-1), .int (-1), .int (nI 0), .int (-1), .int (nI 0)])), (w3, .inr (3, [.null, .int (-1), .int (-1), .int (nI 0), .int (-1), .int (nI 0)]))] H) (hD : va_D A [(g, .inr (5, [.ref vr, .ref wr, .ref dk, .ref mp, .int (nI 1)])), (vr, .inl (Y.2 2, 3, .inr (.inr (.inr (.inr (va_up (fun _ => none) 0 (some v))))))), (wr, .inl (Y.2 3, 4, .inr (.inr (.inr (.inr (va_up (va_up (va_up (va_up (fun _ => none) 0 (some w0)) 1 (some w1)) 2 (some w2)) 3 (some w3))))))), (dk, .inr (0, [.int (nI 0), .ref sm, .ref y])), (sm, .inl (Y.2 0, 12, .inl (fun _ => nI 0))), (y, .inr (4, [.int (nI 0), .ref a1, .ref a2, .ref a3, .int (nI 0), .int (nI 0), .int (nI 0)])), (a1, .inl (Y.2 0, 12, .inl (fun _ => nI 0))), (a2, .inl (Y.2 0, 12, .inl (fun _ => nI 0))), (a3, .inl (Y.2 1, 12, .inl (fun _ => nI 0))), (mp, .inr (1, [.ref kva, .ref ksa])), (kva, .inl (Y.2 0, 64, .inl kv)), (ksa, .inl (Y.2 0, 128, .inl (fun _ => nI 0))), (v, .inr (2, [.int (nI 0), .ref va, .ref vb])), (va, .inl (Y.2 0, 100, .inl (fun _ => nI 0))), (vb, .inl (Y.2 0, 256, .inl (fun _ => nI 0))), (w0, .inr (3, [.null, .int (-1), .int (-1), .int (nI 0), .int (-1), .int (nI 0)])), (w1, .inr (3, [.null, .int (-1), .int (-1), .int (nI 0), .int (-1), .int (nI 0)])), (w2, .inr (3, [.null, .int (-1), .int (-1), .int (nI 0), .int (-1), .int (nI 0)])), (w3, .inr (3, [.null, .int (-1), .int (-1), .int (nI 0), .int (-1), .int (nI 0)]))]) : th_GW Y g A th_S0 H := by
  obtain ⟨ad, had⟩ : ∃ ad : Nat → Nat, ad 0 = g ∧ ad 1 = vr ∧ ad 2 = wr ∧ ad 3 = dk ∧ ad 4 = sm ∧ ad 5 = y ∧ ad 6 = a1 ∧ ad 7 = a2 ∧ ad 8 = a3 ∧ ad 9 = mp ∧ ad 10 = kva ∧ ad 11 = ksa ∧ ad 12 = w0 ∧ ad 13 = w1 ∧ ad 14 = w2 ∧ ad 15 = w3 ∧ ad 16 = v ∧ ad 17 = va ∧ ad 18 = vb := ⟨fun k => [g, vr, wr, dk, sm, y, a1, a2, a3, mp, kva, ksa, w0, w1, w2, w3, v, va, vb].getD k 0, rfl, rfl, rfl, rfl, rfl, rfl, rfl, rfl, rfl, rfl, rfl, rfl, rfl, rfl, rfl, rfl, rfl, rfl, rfl⟩
  obtain ⟨e0, e1, e2, e3, e4, e5, e6, e7, e8, e9, e10, e11, e12, e13, e14, e15, e16, e17, e18⟩ := had
  have key : ∀ k : Nat, k < 19 → ∃ e9 : va_E, ([(g, .inr (5, [.ref vr, .ref wr, .ref dk, .ref mp, .int (nI 1)])), (vr, .inl (Y.2 2, 3, .inr (.inr (.inr (.inr (va_up (fun _ => none) 0 (some v))))))), (wr, .inl (Y.2 3, 4, .inr (.inr (.inr (.inr (va_up (va_up (va_up (va_up (fun _ => none) 0 (some w0)) 1 (some w1)) 2 (some w2)) 3 (some w3))))))), (dk, .inr (0, [.int (nI 0), .ref sm, .ref y])), (sm, .inl (Y.2 0, 12, .inl (fun _ => nI 0))), (y, .inr (4, [.int (nI 0), .ref a1, .ref a2, .ref a3, .int (nI 0), .int (nI 0), .int (nI 0)])), (a1, .inl (Y.2 0, 12, .inl (fun _ => nI 0))), (a2, .inl (Y.2 0, 12, .inl (fun _ => nI 0))), (a3, .inl (Y.2 1, 12, .inl (fun _ => nI 0))), (mp, .inr (1, [.ref kva, .ref ksa])), (kva, .inl (Y.2 0, 64, .inl kv)), (ksa, .inl (Y.2 0, 128, .inl (fun _ => nI 0))), (v, .inr (2, [.int (nI 0), .ref va, .ref vb])), (va, .inl (Y.2 0, 100, .inl (fun _ => nI 0))), (vb, .inl (Y.2 0, 256, .inl (fun _ => nI 0))), (w0, .inr (3, [.null, .int (-1), .int (-1), .int (nI 0), .int (-1), .int (nI 0)])), (w1, .inr (3, [.null, .int (-1), .int (-1), .int (nI 0), .int (-1), .int (nI 0)])), (w2, .inr (3, [.null, .int (-1), .int (-1), .int (nI 0), .int (-1), .int (nI 0)])), (w3, .inr (3, [.null, .int (-1), .int (-1), .int (nI 0), .int (-1), .int (nI 0)]))] : va_W)[th_pi k]? = some (ad k, e9) := by
    intro k hk
    rcases (show k = 0 ∨ k = 1 ∨ k = 2 ∨ k = 3 ∨ k = 4 ∨ k = 5 ∨ k = 6 ∨ k = 7 ∨ k = 8 ∨ k = 9 ∨ k = 10 ∨ k = 11 ∨ k = 12 ∨ k = 13 ∨ k = 14 ∨ k = 15 ∨ k = 16 ∨ k = 17 ∨ k = 18 by omega) with rfl | rfl | rfl | rfl | rfl | rfl | rfl | rfl | rfl | rfl | rfl | rfl | rfl | rfl | rfl | rfl | rfl | rfl | rfl
    · rw [e0]; exact ⟨_, rfl⟩
    · rw [e1]; exact ⟨_, rfl⟩
    · rw [e2]; exact ⟨_, rfl⟩
    · rw [e3]; exact ⟨_, rfl⟩
    · rw [e4]; exact ⟨_, rfl⟩
    · rw [e5]; exact ⟨_, rfl⟩
    · rw [e6]; exact ⟨_, rfl⟩
    · rw [e7]; exact ⟨_, rfl⟩
    · rw [e8]; exact ⟨_, rfl⟩
    · rw [e9]; exact ⟨_, rfl⟩
    · rw [e10]; exact ⟨_, rfl⟩
    · rw [e11]; exact ⟨_, rfl⟩
    · rw [e12]; exact ⟨_, rfl⟩
    · rw [e13]; exact ⟨_, rfl⟩
    · rw [e14]; exact ⟨_, rfl⟩
    · rw [e15]; exact ⟨_, rfl⟩
    · rw [e16]; exact ⟨_, rfl⟩
    · rw [e17]; exact ⟨_, rfl⟩
    · rw [e18]; exact ⟨_, rfl⟩
  refine ⟨ad, fun _ _ => nI 0, fun _ _ => nI 0, fun _ => nI 0, kv, fun _ => nI 0, fun _ => 0, fun _ _ => nI 0, e0, fun k hk => ?_, ?_, ?_, ?_⟩
  · obtain ⟨e9, h9⟩ := key k hk
    exact hD.2 _ _ h9
  · intro k x hx
    have hk : k < 16 + 3 * 1 := th_gdomS hx
    rcases (show k = 0 ∨ k = 1 ∨ k = 2 ∨ k = 3 ∨ k = 4 ∨ k = 5 ∨ k = 6 ∨ k = 7 ∨ k = 8 ∨ k = 9 ∨ k = 10 ∨ k = 11 ∨ k = 12 ∨ k = 13 ∨ k = 14 ∨ k = 15 ∨ k = 16 ∨ k = 17 ∨ k = 18 by omega) with rfl | rfl | rfl | rfl | rfl | rfl | rfl | rfl | rfl | rfl | rfl | rfl | rfl | rfl | rfl | rfl | rfl | rfl | rfl
    · have h9 : some _ = some x := hx
      cases h9
      show va_at Y.1 vwCl (ad 0, .inr (5, [.ref (ad 1), .ref (ad 2), .ref (ad 3), .ref (ad 9), .int (nI 1)])) H
      rw [e0, e1, e2, e3, e9]
      exact hP 0 _ rfl
    · have h9 : some _ = some x := hx
      cases h9
      show va_at Y.1 vwCl (ad 1, .inl (Y.2 2, 3, .inr (.inr (.inr (.inr (fun i => if i < 1 then some (ad (16 + 3 * i)) else none)))))) H
      rw [e1]
      refine th_atq (hP 1 _ rfl) (fun j hj => ?_)
      rcases (show j = 0 ∨ j = 1 ∨ j = 2 by omega) with rfl | rfl | rfl
      · show some v = some (ad 16)
        rw [e16]
      · rfl
      · rfl
    · have h9 : some _ = some x := hx
      cases h9
      show va_at Y.1 vwCl (ad 2, .inl (Y.2 3, 4, .inr (.inr (.inr (.inr (fun i => some (ad (12 + i)))))))) H
      rw [e2]
      refine th_atq (hP 2 _ rfl) (fun j hj => ?_)
      rcases (show j = 0 ∨ j = 1 ∨ j = 2 ∨ j = 3 by omega) with rfl | rfl | rfl | rfl
      · show some w0 = some (ad 12)
        rw [e12]
      · show some w1 = some (ad 13)
        rw [e13]
      · show some w2 = some (ad 14)
        rw [e14]
      · show some w3 = some (ad 15)
        rw [e15]
    · have h9 : some _ = some x := hx
      cases h9
      show va_at Y.1 vwCl (ad 3, .inr (0, [.int (nI 0), .ref (ad 4), .ref (ad 5)])) H
      rw [e3, e4, e5]
      exact hP 3 _ rfl
    · have h9 : some _ = some x := hx
      cases h9
      show va_at Y.1 vwCl (ad 4, .inl (Y.2 0, 12, .inl (fun _ => nI 0))) H
      rw [e4]
      exact hP 4 _ rfl
    · have h9 : some _ = some x := hx
      cases h9
      show va_at Y.1 vwCl (ad 5, .inr (4, [.int (nI 0), .ref (ad 6), .ref (ad 7), .ref (ad 8), .int (nI 0), .int (nI 0), .int (nI 0)])) H
      rw [e5, e6, e7, e8]
      exact hP 5 _ rfl
    · have h9 : some _ = some x := hx
      cases h9
      show va_at Y.1 vwCl (ad 6, .inl (Y.2 0, 12, .inl (fun _ => nI 0))) H
      rw [e6]
      exact hP 6 _ rfl
    · have h9 : some _ = some x := hx
      cases h9
      show va_at Y.1 vwCl (ad 7, .inl (Y.2 0, 12, .inl (fun _ => nI 0))) H
      rw [e7]
      exact hP 7 _ rfl
    · have h9 : some _ = some x := hx
      cases h9
      show va_at Y.1 vwCl (ad 8, .inl (Y.2 1, 12, .inl (fun _ => nI 0))) H
      rw [e8]
      exact hP 8 _ rfl
    · have h9 : some _ = some x := hx
      cases h9
      show va_at Y.1 vwCl (ad 9, .inr (1, [.ref (ad 10), .ref (ad 11)])) H
      rw [e9, e10, e11]
      exact hP 9 _ rfl
    · have h9 : some _ = some x := hx
      cases h9
      show va_at Y.1 vwCl (ad 10, .inl (Y.2 0, 64, .inl kv)) H
      rw [e10]
      exact hP 10 _ rfl
    · have h9 : some _ = some x := hx
      cases h9
      show va_at Y.1 vwCl (ad 11, .inl (Y.2 0, 128, .inl (fun _ => nI 0))) H
      rw [e11]
      exact hP 11 _ rfl
    · have h9 : some _ = some x := hx
      cases h9
      show va_at Y.1 vwCl (ad 12, .inr (3, [.null, .int (-1), .int (-1), .int (nI 0), .int (-1), .int (nI 0)])) H
      rw [e12]
      exact hP 15 _ rfl
    · have h9 : some _ = some x := hx
      cases h9
      show va_at Y.1 vwCl (ad 13, .inr (3, [.null, .int (-1), .int (-1), .int (nI 0), .int (-1), .int (nI 0)])) H
      rw [e13]
      exact hP 16 _ rfl
    · have h9 : some _ = some x := hx
      cases h9
      show va_at Y.1 vwCl (ad 14, .inr (3, [.null, .int (-1), .int (-1), .int (nI 0), .int (-1), .int (nI 0)])) H
      rw [e14]
      exact hP 17 _ rfl
    · have h9 : some _ = some x := hx
      cases h9
      show va_at Y.1 vwCl (ad 15, .inr (3, [.null, .int (-1), .int (-1), .int (nI 0), .int (-1), .int (nI 0)])) H
      rw [e15]
      exact hP 18 _ rfl
    · have h9 : some _ = some x := hx
      cases h9
      show va_at Y.1 vwCl (ad 16, .inr (2, [.int (nI 0), .ref (ad 17), .ref (ad 18)])) H
      rw [e16, e17, e18]
      exact hP 12 _ rfl
    · have h9 : some _ = some x := hx
      cases h9
      show va_at Y.1 vwCl (ad 17, .inl (Y.2 0, 100, .inl (fun _ => nI 0))) H
      rw [e17]
      exact hP 13 _ rfl
    · have h9 : some _ = some x := hx
      cases h9
      show va_at Y.1 vwCl (ad 18, .inl (Y.2 0, 256, .inl (fun _ => nI 0))) H
      rw [e18]
      exact hP 14 _ rfl
  · intro i j hi hj h9
    obtain ⟨x9, hx9⟩ := key i hi
    obtain ⟨y9, hy9⟩ := key j hj
    exact th_pi_inj hi hj (hD.1 _ _ _ _ hx9 hy9 h9)
  · refine ⟨⟨Nat.le_refl _, by decide⟩, fun i _ => ⟨Nat.zero_le _, th_BI_0 _ _, fun j hj => absurd hj (Nat.not_lt_zero j)⟩, Nat.zero_le _, fun j hj => absurd hj (Nat.not_lt_zero j), th_lv0 hkv, hkv, fun w _ => ⟨Or.inl ⟨rfl, rfl⟩, Or.inl rfl⟩⟩

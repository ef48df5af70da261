theorem th_RGnew {Y : th_Y} {A : Nat → Prop} {H : Heap} {o a19 a29 a39 a49 a59 a69 a79 a89 a99 a109 a119 a129 a139 a149 a159 : Nat} {kv f1 f2 f3 : Nat → Int32} (hP : va_P Y.1 vwCl [(o, .inr (6, [.int (nI 0), .ref a19, .ref a29, .int (nI 1), .ref a39, .ref a49, .ref a59, .int (nI 0), .ref a69, .ref a79, .int (nI 0), .int (nI 0), .int (nI 0), .int (nI 0), .ref a89, .ref a99, .ref a109, .ref a119, .ref a129, .ref a139, .ref a149, .ref a159])), (a19, .inl (Y.2 0, 300, .inl (fun _ => nI 0))), (a29, .inl (Y.2 0, 3, .inl (fun _ => nI 0))), (a39, .inl (Y.2 0, 8, .inl (fun _ => nI 0))), (a49, .inl (Y.2 0, 8, .inl (fun _ => nI 0))), (a59, .inl (Y.2 0, 12, .inl (fun _ => nI 0))), (a69, .inl (Y.2 0, 12, .inl (fun _ => nI 0))), (a79, .inl (Y.2 1, 12, .inl (fun _ => nI 0))), (a89, .inl (Y.2 0, 64, .inl kv)), (a99, .inl (Y.2 0, 64, .inl (fun _ => nI 0))), (a109, .inl (Y.2 0, 4, .inl (fun _ => nI 0))), (a119, .inl (Y.2 0, 4, .inl f1)), (a129, .inl (Y.2 0, 4, .inl f2)), (a139, .inl (Y.2 1, 4, .inl (fun _ => nI 0))), (a149, .inl (Y.2 0, 4, .inl f3)), (a159, .inl (Y.2 0, 4, .inl (fun _ => nI 0)))] H) (hD : va_D A [(o, .inr (6, [.int (nI 0), .ref a19, .ref a29, .int (nI 1), .ref a39, .ref a49, .ref a59, .int (nI 0), .ref a69, .ref a79, .int (nI 0), .int (nI 0), .int (nI 0), .int (nI 0), .ref a89, .ref a99, .ref a109, .ref a119, .ref a129, .ref a139, .ref a149, .ref a159])), (a19, .inl (Y.2 0, 300, .inl (fun _ => nI 0))), (a29, .inl (Y.2 0, 3, .inl (fun _ => nI 0))), (a39, .inl (Y.2 0, 8, .inl (fun _ => nI 0))), (a49, .inl (Y.2 0, 8, .inl (fun _ => nI 0))), (a59, .inl (Y.2 0, 12, .inl (fun _ => nI 0))), (a69, .inl (Y.2 0, 12, .inl (fun _ => nI 0))), (a79, .inl (Y.2 1, 12, .inl (fun _ => nI 0))), (a89, .inl (Y.2 0, 64, .inl kv)), (a99, .inl (Y.2 0, 64, .inl (fun _ => nI 0))), (a109, .inl (Y.2 0, 4, .inl (fun _ => nI 0))), (a119, .inl (Y.2 0, 4, .inl f1)), (a129, .inl (Y.2 0, 4, .inl f2)), (a139, .inl (Y.2 1, 4, .inl (fun _ => nI 0))), (a149, .inl (Y.2 0, 4, .inl f3)), (a159, .inl (Y.2 0, 4, .inl (fun _ => nI 0)))]) (hkv : ∀ i, i < 64 → kv i = -1) (hf : ∀ i, i < 4 → f1 i = -1 ∧ f2 i = -1 ∧ f3 i = -1) : ∃ ro : Nat → Nat, ro 0 = o ∧ (∀ k, k < 16 → A (ro k)) ∧ th_gJ ro 16 ∧ th_RG Y ro (nI 0) th_S0 H := by
  obtain ⟨ro, had⟩ : ∃ ro : Nat → Nat, ro 0 = o ∧ ro 1 = a19 ∧ ro 2 = a29 ∧ ro 3 = a39 ∧ ro 4 = a49 ∧ ro 5 = a59 ∧ ro 6 = a69 ∧ ro 7 = a79 ∧ ro 8 = a89 ∧ ro 9 = a99 ∧ ro 10 = a109 ∧ ro 11 = a119 ∧ ro 12 = a129 ∧ ro 13 = a139 ∧ ro 14 = a149 ∧ ro 15 = a159 := ⟨fun k => [o, a19, a29, a39, a49, a59, a69, a79, a89, a99, a109, a119, a129, a139, a149, a159].getD k 0, rfl, rfl, rfl, rfl, rfl, rfl, rfl, rfl, rfl, rfl, rfl, rfl, rfl, rfl, rfl, rfl⟩
  obtain ⟨e0, e1, e2, e3, e4, e5, e6, e7, e8, e9, e10, e11, e12, e13, e14, e15⟩ := had
  have key : ∀ k : Nat, k < 16 → ∃ e9 : va_E, ([(o, .inr (6, [.int (nI 0), .ref a19, .ref a29, .int (nI 1), .ref a39, .ref a49, .ref a59, .int (nI 0), .ref a69, .ref a79, .int (nI 0), .int (nI 0), .int (nI 0), .int (nI 0), .ref a89, .ref a99, .ref a109, .ref a119, .ref a129, .ref a139, .ref a149, .ref a159])), (a19, .inl (Y.2 0, 300, .inl (fun _ => nI 0))), (a29, .inl (Y.2 0, 3, .inl (fun _ => nI 0))), (a39, .inl (Y.2 0, 8, .inl (fun _ => nI 0))), (a49, .inl (Y.2 0, 8, .inl (fun _ => nI 0))), (a59, .inl (Y.2 0, 12, .inl (fun _ => nI 0))), (a69, .inl (Y.2 0, 12, .inl (fun _ => nI 0))), (a79, .inl (Y.2 1, 12, .inl (fun _ => nI 0))), (a89, .inl (Y.2 0, 64, .inl kv)), (a99, .inl (Y.2 0, 64, .inl (fun _ => nI 0))), (a109, .inl (Y.2 0, 4, .inl (fun _ => nI 0))), (a119, .inl (Y.2 0, 4, .inl f1)), (a129, .inl (Y.2 0, 4, .inl f2)), (a139, .inl (Y.2 1, 4, .inl (fun _ => nI 0))), (a149, .inl (Y.2 0, 4, .inl f3)), (a159, .inl (Y.2 0, 4, .inl (fun _ => nI 0)))] : va_W)[k]? = some (ro k, e9) := by
    intro k hk
    rcases (show k = 0 ∨ k = 1 ∨ k = 2 ∨ k = 3 ∨ k = 4 ∨ k = 5 ∨ k = 6 ∨ k = 7 ∨ k = 8 ∨ k = 9 ∨ k = 10 ∨ k = 11 ∨ k = 12 ∨ k = 13 ∨ k = 14 ∨ k = 15 by omega) with rfl | rfl | rfl | rfl | rfl | rfl | rfl | rfl | rfl | rfl | rfl | rfl | rfl | rfl | rfl | rfl
    · rw [e0]; exact ⟨_, rfl⟩
    · rw [e1]; exact ⟨_, rfl⟩
    · rw [e2]; exact ⟨_, rfl⟩
    · rw [e3]; exact ⟨_, rfl⟩
    · rw [e4]; exact ⟨_, rfl⟩
    · rw [e5]; exact ⟨_, rfl⟩
    · rw [e6]; exact ⟨_, rfl⟩
    · rw [e7]; exact ⟨_, rfl⟩
    · rw [e8]; exact ⟨_, rfl⟩
    · rw [e9]; exact ⟨_, rfl⟩
    · rw [e10]; exact ⟨_, rfl⟩
    · rw [e11]; exact ⟨_, rfl⟩
    · rw [e12]; exact ⟨_, rfl⟩
    · rw [e13]; exact ⟨_, rfl⟩
    · rw [e14]; exact ⟨_, rfl⟩
    · rw [e15]; exact ⟨_, rfl⟩
  refine ⟨ro, e0, fun k hk => ?_, fun i j hi hj h9 => ?_, nI 0, nI 0, nI 0, nI 0, (fun _ => nI 0), (fun _ => nI 0), (fun _ => nI 0), (fun _ => nI 0), (fun _ => nI 0), (fun _ => nI 0), (fun _ => nI 0), kv, (fun _ => nI 0), (fun _ => nI 0), f1, f2, (fun _ => nI 0), f3, (fun _ => nI 0), ?_, ?_⟩
  · obtain ⟨e9, h9⟩ := key k hk
    exact hD.2 _ _ h9
  · obtain ⟨x9, hx9⟩ := key i hi
    obtain ⟨y9, hy9⟩ := key j hj
    exact hD.1 _ _ _ _ hx9 hy9 h9
  · rw [e0, e1, e2, e3, e4, e5, e6, e7, e8, e9, e10, e11, e12, e13, e14, e15]
    exact hP
  · exact ⟨⟨Nat.le_refl _, by decide⟩, fun i _ => ⟨Nat.zero_le _, rfl, fun j hj => absurd hj (Nat.not_lt_zero j)⟩, Nat.zero_le _, fun j hj => absurd hj (Nat.not_lt_zero j), hkv, fun w hw => ⟨⟨(hf w hw).1, (hf w hw).2.1, rfl, (hf w hw).2.2, rfl⟩, (fun j h => by cases h), Or.inl ⟨rfl, rfl⟩, Or.inl rfl⟩⟩

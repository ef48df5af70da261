/-! what a change of some roles leaves of the rest (by program) -/
section
variable {Y : th_Y} {ad : Nat → Nat} {nv cnt : Nat} {sz : Nat → Nat} {V B : Nat → Nat → Int32} {ds kv ks : Nat → Int32} {wy : Nat → Nat} {wz : Nat → Nat → Int32} {K : Nat → Option Nat} {W : Nat → Nat → Int32} {H H1 : Heap}
theorem th_wy4 (r F N T : Nat) : (fun k => if k = 0 then r else if k = 1 then F else if k = 2 then N else T) 0 = r ∧ (fun k => if k = 0 then r else if k = 1 then F else if k = 2 then N else T) 1 = F ∧ (fun k => if k = 0 then r else if k = 1 then F else if k = 2 then N else T) 2 = N ∧ (fun k => if k = 0 then r else if k = 1 then F else if k = 2 then N else T) 3 = T := ⟨rfl, rfl, rfl, rfl⟩
def th_w4 (r F N T : Nat) : Nat → Nat
  | 0 => r
  | 1 => F
  | 2 => N
  | _ => T
def th_w3 (fr le fi : Nat → Int32) : Nat → Nat → Int32
  | 0 => fr
  | 1 => le
  | _ => fi
def th_w5 (a b c d e : Int32) : Nat → Int32
  | 0 => a
  | 1 => b
  | 2 => c
  | 3 => d
  | _ => e
theorem th_guV {i : Nat} {n9 : Nat} {f9 g9 : Nat → Int32} (hG : th_gP Y ad (th_gS Y ad nv sz V B cnt ds wy wz kv ks K W) H) (hJ : th_gJ ad (16 + 3 * nv)) (hi : i < nv) (hs : th_Same (fun q => q ∈ [ad (16 + 3 * i), ad (16 + 3 * i + 1), ad (16 + 3 * i + 2)]) H H1) (hw : va_P Y.1 vwCl [(ad (16 + 3 * i), .inr (2, [.int (nI n9), .ref (ad (16 + 3 * i + 1)), .ref (ad (16 + 3 * i + 2))])), (ad (16 + 3 * i + 1), .inl (Y.2 0, 100, .inl f9)), (ad (16 + 3 * i + 2), .inl (Y.2 0, 256, .inl g9))] H1) : th_gP Y ad (th_gS Y ad nv (va_up sz i n9) (va_up V i f9) (va_up B i g9) cnt ds wy wz kv ks K W) H1 := by
  refine th_gjoin [16 + 3 * i, 16 + 3 * i + 1, 16 + 3 * i + 2] hG hJ (fun k => th_gdom) (fun k hk => ?_) hs hw (fun k hk e he => ?_) (fun k hk => ?_)
  · simp only [List.mem_cons, List.not_mem_nil, or_false] at hk; omega
  · simp only [List.mem_cons, List.not_mem_nil, or_false] at hk
    rcases hk with rfl | rfl | rfl
    · have h9 := (th_gSv (j := 0) hi (by omega)).symm.trans he; simp only [va_up_self] at h9; cases h9; exact List.mem_of_getElem? (i := 0) rfl
    · have h9 := (th_gSv (j := 1) hi (by omega)).symm.trans he; simp only [va_up_self] at h9; cases h9; exact List.mem_of_getElem? (i := 1) rfl
    · have h9 := (th_gSv (j := 2) hi (by omega)).symm.trans he; simp only [va_up_self] at h9; cases h9; exact List.mem_of_getElem? (i := 2) rfl
  · simp only [List.mem_cons, List.not_mem_nil, or_false, not_or] at hk
    unfold th_gS
    by_cases c1 : k < 3
    · rw [if_pos c1, if_pos c1]
    rw [if_neg c1, if_neg c1]
    by_cases c2 : k < 9
    · rw [if_pos c2, if_pos c2]
    rw [if_neg c2, if_neg c2]
    by_cases c3 : k < 12
    · rw [if_pos c3, if_pos c3]
    rw [if_neg c3, if_neg c3]
    by_cases c4 : k < 16
    · rw [if_pos c4, if_pos c4]
    rw [if_neg c4, if_neg c4]
    by_cases c5 : (k - 16) / 3 < nv
    · rw [if_pos c5, if_pos c5, va_up_ne _ _ (show (k - 16) / 3 ≠ i by omega), va_up_ne _ _ (show (k - 16) / 3 ≠ i by omega), va_up_ne _ _ (show (k - 16) / 3 ≠ i by omega)]
    · rw [if_neg c5, if_neg c5]
theorem th_guD {cnt9 : Nat} {ds9 : Nat → Int32} {r1 F1 N1 T1 : Nat} {fr1 le1 fi1 : Nat → Int32} (hG : th_gP Y ad (th_gS Y ad nv sz V B cnt ds wy wz kv ks K W) H) (hJ : th_gJ ad (16 + 3 * nv)) (hs : th_Same (fun q => q ∈ [ad 3, ad 4, ad 5, ad 6, ad 7, ad 8]) H H1) (hw : va_P Y.1 vwCl [(ad 3, .inr (0, [.int (nI cnt9), .ref (ad 4), .ref (ad 5)])), (ad 4, .inl (Y.2 0, 12, .inl ds9)), (ad 5, .inr (4, [.int (nI r1), .ref (ad 6), .ref (ad 7), .ref (ad 8), .int (nI F1), .int (nI N1), .int (nI T1)])), (ad 6, .inl (Y.2 0, 12, .inl fr1)), (ad 7, .inl (Y.2 0, 12, .inl le1)), (ad 8, .inl (Y.2 1, 12, .inl fi1))] H1) : th_gP Y ad (th_gS Y ad nv sz V B (cnt9) (ds9) (th_w4 r1 F1 N1 T1) (th_w3 fr1 le1 fi1) kv ks K W) H1 := by
  refine th_gjoin [3, 4, 5, 6, 7, 8] hG hJ (fun k => th_gdom) (fun k hk => ?_) hs hw (fun k hk e he => ?_) (fun k hk => ?_)
  · simp only [List.mem_cons, List.not_mem_nil, or_false] at hk; omega
  · simp only [List.mem_cons, List.not_mem_nil, or_false] at hk
    rcases hk with rfl | rfl | rfl | rfl | rfl | rfl
    · have h9 : some _ = some e := he; cases h9; exact List.mem_of_getElem? (i := 0) rfl
    · have h9 : some _ = some e := he; cases h9; exact List.mem_of_getElem? (i := 1) rfl
    · have h9 : some _ = some e := he; cases h9; exact List.mem_of_getElem? (i := 2) rfl
    · have h9 : some _ = some e := he; cases h9; exact List.mem_of_getElem? (i := 3) rfl
    · have h9 : some _ = some e := he; cases h9; exact List.mem_of_getElem? (i := 4) rfl
    · have h9 : some _ = some e := he; cases h9; exact List.mem_of_getElem? (i := 5) rfl
  · simp only [List.mem_cons, List.not_mem_nil, or_false, not_or] at hk
    unfold th_gS
    by_cases c1 : k < 3
    · rw [if_pos c1, if_pos c1]
    rw [if_neg c1, if_neg c1]
    by_cases c2 : k < 9
    · exfalso; omega
    rw [if_neg c2, if_neg c2]
theorem th_guDV {i : Nat} {cnt9 : Nat} {ds9 : Nat → Int32} {r1 F1 N1 T1 : Nat} {fr1 le1 fi1 : Nat → Int32} (hG : th_gP Y ad (th_gS Y ad nv sz V B cnt ds wy wz kv ks K W) H) (hJ : th_gJ ad (16 + 3 * nv)) (hi : i < nv) (hs : th_Same (fun q => q ∈ [ad 3, ad 4, ad 5, ad 6, ad 7, ad 8, ad (16 + 3 * i), ad (16 + 3 * i + 1), ad (16 + 3 * i + 2)]) H H1) (hw : va_P Y.1 vwCl [(ad 3, .inr (0, [.int (nI cnt9), .ref (ad 4), .ref (ad 5)])), (ad 4, .inl (Y.2 0, 12, .inl ds9)), (ad 5, .inr (4, [.int (nI r1), .ref (ad 6), .ref (ad 7), .ref (ad 8), .int (nI F1), .int (nI N1), .int (nI T1)])), (ad 6, .inl (Y.2 0, 12, .inl fr1)), (ad 7, .inl (Y.2 0, 12, .inl le1)), (ad 8, .inl (Y.2 1, 12, .inl fi1)), (ad (16 + 3 * i), .inr (2, [.int (nI (sz i)), .ref (ad (16 + 3 * i + 1)), .ref (ad (16 + 3 * i + 2))])), (ad (16 + 3 * i + 1), .inl (Y.2 0, 100, .inl (V i))), (ad (16 + 3 * i + 2), .inl (Y.2 0, 256, .inl (B i)))] H1) : th_gP Y ad (th_gS Y ad nv sz V B (cnt9) (ds9) (th_w4 r1 F1 N1 T1) (th_w3 fr1 le1 fi1) kv ks K W) H1 := by
  refine th_gjoin [3, 4, 5, 6, 7, 8, 16 + 3 * i, 16 + 3 * i + 1, 16 + 3 * i + 2] hG hJ (fun k => th_gdom) (fun k hk => ?_) hs hw (fun k hk e he => ?_) (fun k hk => ?_)
  · simp only [List.mem_cons, List.not_mem_nil, or_false] at hk; omega
  · simp only [List.mem_cons, List.not_mem_nil, or_false] at hk
    rcases hk with rfl | rfl | rfl | rfl | rfl | rfl | rfl | rfl | rfl
    · have h9 : some _ = some e := he; cases h9; exact List.mem_of_getElem? (i := 0) rfl
    · have h9 : some _ = some e := he; cases h9; exact List.mem_of_getElem? (i := 1) rfl
    · have h9 : some _ = some e := he; cases h9; exact List.mem_of_getElem? (i := 2) rfl
    · have h9 : some _ = some e := he; cases h9; exact List.mem_of_getElem? (i := 3) rfl
    · have h9 : some _ = some e := he; cases h9; exact List.mem_of_getElem? (i := 4) rfl
    · have h9 : some _ = some e := he; cases h9; exact List.mem_of_getElem? (i := 5) rfl
    · have h9 := (th_gSv (j := 0) hi (by omega)).symm.trans he; cases h9; exact List.mem_of_getElem? (i := 6) rfl
    · have h9 := (th_gSv (j := 1) hi (by omega)).symm.trans he; cases h9; exact List.mem_of_getElem? (i := 7) rfl
    · have h9 := (th_gSv (j := 2) hi (by omega)).symm.trans he; cases h9; exact List.mem_of_getElem? (i := 8) rfl
  · simp only [List.mem_cons, List.not_mem_nil, or_false, not_or] at hk
    unfold th_gS
    by_cases c1 : k < 3
    · rw [if_pos c1, if_pos c1]
    rw [if_neg c1, if_neg c1]
    by_cases c2 : k < 9
    · exfalso; omega
    rw [if_neg c2, if_neg c2]
theorem th_guE {cnt9 : Nat} {ds9 : Nat → Int32} (hG : th_gP Y ad (th_gS Y ad nv sz V B cnt ds wy wz kv ks K W) H) (hJ : th_gJ ad (16 + 3 * nv)) (hs : th_Same (fun q => q ∈ [ad 3, ad 4]) H H1) (hw : va_P Y.1 vwCl [(ad 3, .inr (0, [.int (nI cnt9), .ref (ad 4), .ref (ad 5)])), (ad 4, .inl (Y.2 0, 12, .inl ds9))] H1) : th_gP Y ad (th_gS Y ad nv sz V B (cnt9) (ds9) wy wz kv ks K W) H1 := by
  refine th_gjoin [3, 4] hG hJ (fun k => th_gdom) (fun k hk => ?_) hs hw (fun k hk e he => ?_) (fun k hk => ?_)
  · simp only [List.mem_cons, List.not_mem_nil, or_false] at hk; omega
  · simp only [List.mem_cons, List.not_mem_nil, or_false] at hk
    rcases hk with rfl | rfl
    · have h9 : some _ = some e := he; cases h9; exact List.mem_of_getElem? (i := 0) rfl
    · have h9 : some _ = some e := he; cases h9; exact List.mem_of_getElem? (i := 1) rfl
  · simp only [List.mem_cons, List.not_mem_nil, or_false, not_or] at hk
    unfold th_gS
    by_cases c1 : k < 3
    · rw [if_pos c1, if_pos c1]
    rw [if_neg c1, if_neg c1]
    by_cases c2 : k < 9
    · rw [if_pos c2, if_pos c2]; rcases (show k = 5 ∨ k = 6 ∨ k = 7 ∨ k = 8 by omega) with rfl | rfl | rfl | rfl <;> rfl
    rw [if_neg c2, if_neg c2]
theorem th_guM {kv9 ks9 : Nat → Int32} (hG : th_gP Y ad (th_gS Y ad nv sz V B cnt ds wy wz kv ks K W) H) (hJ : th_gJ ad (16 + 3 * nv)) (hs : th_Same (fun q => q ∈ [ad 9, ad 10, ad 11]) H H1) (hw : va_P Y.1 vwCl [(ad 9, .inr (1, [.ref (ad 10), .ref (ad 11)])), (ad 10, .inl (Y.2 0, 64, .inl kv9)), (ad 11, .inl (Y.2 0, 128, .inl ks9))] H1) : th_gP Y ad (th_gS Y ad nv sz V B cnt ds wy wz (kv9) (ks9) K W) H1 := by
  refine th_gjoin [9, 10, 11] hG hJ (fun k => th_gdom) (fun k hk => ?_) hs hw (fun k hk e he => ?_) (fun k hk => ?_)
  · simp only [List.mem_cons, List.not_mem_nil, or_false] at hk; omega
  · simp only [List.mem_cons, List.not_mem_nil, or_false] at hk
    rcases hk with rfl | rfl | rfl
    · have h9 : some _ = some e := he; cases h9; exact List.mem_of_getElem? (i := 0) rfl
    · have h9 : some _ = some e := he; cases h9; exact List.mem_of_getElem? (i := 1) rfl
    · have h9 : some _ = some e := he; cases h9; exact List.mem_of_getElem? (i := 2) rfl
  · simp only [List.mem_cons, List.not_mem_nil, or_false, not_or] at hk
    unfold th_gS
    by_cases c1 : k < 3
    · rw [if_pos c1, if_pos c1]
    rw [if_neg c1, if_neg c1]
    by_cases c2 : k < 9
    · rw [if_pos c2, if_pos c2]
    rw [if_neg c2, if_neg c2]
    by_cases c3 : k < 12
    · exfalso; omega
    rw [if_neg c3, if_neg c3]
theorem th_guEM {cnt9 : Nat} {ds9 : Nat → Int32} (hG : th_gP Y ad (th_gS Y ad nv sz V B cnt ds wy wz kv ks K W) H) (hJ : th_gJ ad (16 + 3 * nv)) (hs : th_Same (fun q => q ∈ [ad 3, ad 4, ad 9, ad 10, ad 11]) H H1) (hw : va_P Y.1 vwCl [(ad 3, .inr (0, [.int (nI cnt9), .ref (ad 4), .ref (ad 5)])), (ad 4, .inl (Y.2 0, 12, .inl ds9)), (ad 9, .inr (1, [.ref (ad 10), .ref (ad 11)])), (ad 10, .inl (Y.2 0, 64, .inl kv)), (ad 11, .inl (Y.2 0, 128, .inl ks))] H1) : th_gP Y ad (th_gS Y ad nv sz V B (cnt9) (ds9) wy wz kv ks K W) H1 := by
  refine th_gjoin [3, 4, 9, 10, 11] hG hJ (fun k => th_gdom) (fun k hk => ?_) hs hw (fun k hk e he => ?_) (fun k hk => ?_)
  · simp only [List.mem_cons, List.not_mem_nil, or_false] at hk; omega
  · simp only [List.mem_cons, List.not_mem_nil, or_false] at hk
    rcases hk with rfl | rfl | rfl | rfl | rfl
    · have h9 : some _ = some e := he; cases h9; exact List.mem_of_getElem? (i := 0) rfl
    · have h9 : some _ = some e := he; cases h9; exact List.mem_of_getElem? (i := 1) rfl
    · have h9 : some _ = some e := he; cases h9; exact List.mem_of_getElem? (i := 2) rfl
    · have h9 : some _ = some e := he; cases h9; exact List.mem_of_getElem? (i := 3) rfl
    · have h9 : some _ = some e := he; cases h9; exact List.mem_of_getElem? (i := 4) rfl
  · simp only [List.mem_cons, List.not_mem_nil, or_false, not_or] at hk
    unfold th_gS
    by_cases c1 : k < 3
    · rw [if_pos c1, if_pos c1]
    rw [if_neg c1, if_neg c1]
    by_cases c2 : k < 9
    · rw [if_pos c2, if_pos c2]; rcases (show k = 5 ∨ k = 6 ∨ k = 7 ∨ k = 8 by omega) with rfl | rfl | rfl | rfl <;> rfl
    rw [if_neg c2, if_neg c2]
theorem th_guW {i w : Nat} {K9 : Option Nat} {w0 w1 w2 w3 w4 : Int32} (hG : th_gP Y ad (th_gS Y ad nv sz V B cnt ds wy wz kv ks K W) H) (hJ : th_gJ ad (16 + 3 * nv)) (hi : i < nv) (hw4 : w < 4) (hs : th_Same (fun q => q ∈ [ad (12 + w), ad (16 + 3 * i), ad (16 + 3 * i + 1), ad (16 + 3 * i + 2)]) H H1) (hw : va_P Y.1 vwCl [(ad (12 + w), .inr (3, [va_rf (K9.map (fun j => ad (16 + 3 * j))), .int w0, .int w1, .int w2, .int w3, .int w4])), (ad (16 + 3 * i), .inr (2, [.int (nI (sz i)), .ref (ad (16 + 3 * i + 1)), .ref (ad (16 + 3 * i + 2))])), (ad (16 + 3 * i + 1), .inl (Y.2 0, 100, .inl (V i))), (ad (16 + 3 * i + 2), .inl (Y.2 0, 256, .inl (B i)))] H1) : th_gP Y ad (th_gS Y ad nv sz V B cnt ds wy wz kv ks (va_up K w K9) (va_up W w (th_w5 w0 w1 w2 w3 w4))) H1 := by
  refine th_gjoin [12 + w, 16 + 3 * i, 16 + 3 * i + 1, 16 + 3 * i + 2] hG hJ (fun k => th_gdom) (fun k hk => ?_) hs hw (fun k hk e he => ?_) (fun k hk => ?_)
  · simp only [List.mem_cons, List.not_mem_nil, or_false] at hk; omega
  · simp only [List.mem_cons, List.not_mem_nil, or_false] at hk
    rcases hk with rfl | rfl | rfl | rfl
    · rw [th_gS12 hw4] at he; cases he; simp only [va_up_self]; exact List.mem_of_getElem? (i := 0) rfl
    · have h9 := (th_gSv (j := 0) hi (by omega)).symm.trans he; cases h9; exact List.mem_of_getElem? (i := 1) rfl
    · have h9 := (th_gSv (j := 1) hi (by omega)).symm.trans he; cases h9; exact List.mem_of_getElem? (i := 2) rfl
    · have h9 := (th_gSv (j := 2) hi (by omega)).symm.trans he; cases h9; exact List.mem_of_getElem? (i := 3) rfl
  · simp only [List.mem_cons, List.not_mem_nil, or_false, not_or] at hk
    unfold th_gS
    by_cases c1 : k < 3
    · rw [if_pos c1, if_pos c1]
    rw [if_neg c1, if_neg c1]
    by_cases c2 : k < 9
    · rw [if_pos c2, if_pos c2]
    rw [if_neg c2, if_neg c2]
    by_cases c3 : k < 12
    · rw [if_pos c3, if_pos c3]
    rw [if_neg c3, if_neg c3]
    by_cases c4 : k < 16
    · rw [if_pos c4, if_pos c4]; rw [va_up_ne _ _ (show k - 12 ≠ w by omega), va_up_ne _ _ (show k - 12 ≠ w by omega)]
    rw [if_neg c4, if_neg c4]
theorem th_guW1 {w : Nat} {K9 : Option Nat} {w0 w1 w2 w3 w4 : Int32} (hG : th_gP Y ad (th_gS Y ad nv sz V B cnt ds wy wz kv ks K W) H) (hJ : th_gJ ad (16 + 3 * nv)) (hw4 : w < 4) (hs : th_Same (fun q => q ∈ [ad (12 + w)]) H H1) (hw : va_P Y.1 vwCl [(ad (12 + w), .inr (3, [va_rf (K9.map (fun j => ad (16 + 3 * j))), .int w0, .int w1, .int w2, .int w3, .int w4]))] H1) : th_gP Y ad (th_gS Y ad nv sz V B cnt ds wy wz kv ks (va_up K w K9) (va_up W w (th_w5 w0 w1 w2 w3 w4))) H1 := by
  refine th_gjoin [12 + w] hG hJ (fun k => th_gdom) (fun k hk => ?_) hs hw (fun k hk e he => ?_) (fun k hk => ?_)
  · simp only [List.mem_cons, List.not_mem_nil, or_false] at hk; omega
  · simp only [List.mem_cons, List.not_mem_nil, or_false] at hk
    rcases hk with rfl
    · rw [th_gS12 hw4] at he; cases he; simp only [va_up_self]; exact List.mem_of_getElem? (i := 0) rfl
  · simp only [List.mem_cons, List.not_mem_nil, or_false, not_or] at hk
    unfold th_gS
    by_cases c1 : k < 3
    · rw [if_pos c1, if_pos c1]
    rw [if_neg c1, if_neg c1]
    by_cases c2 : k < 9
    · rw [if_pos c2, if_pos c2]
    rw [if_neg c2, if_neg c2]
    by_cases c3 : k < 12
    · rw [if_pos c3, if_pos c3]
    rw [if_neg c3, if_neg c3]
    by_cases c4 : k < 16
    · rw [if_pos c4, if_pos c4]; rw [va_up_ne _ _ (show k - 12 ≠ w by omega), va_up_ne _ _ (show k - 12 ≠ w by omega)]
    rw [if_neg c4, if_neg c4]
end

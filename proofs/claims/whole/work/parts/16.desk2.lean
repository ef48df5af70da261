theorem th_gwF {n : Nat} {q : th_q3} (h : th_in3 n q) (hq : q.2.1 ≤ 128) : (th_wa q (th_dG q)).1 + (th_wa q (th_dG q)).2.1 ≤ n := by
  obtain ⟨h1, -, h3⟩ := th_least h hq th_sG2
  exact (th_stop h hq th_sG2 h1 h3).1.2.1

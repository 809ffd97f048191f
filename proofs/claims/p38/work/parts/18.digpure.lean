theorem xkc_le {kc : Nat} (hk : kc ≤ 6) (h : nI kc ≤ 0) : kc = 0 := by
  rcases Nat.eq_zero_or_pos kc with e | e
  · exact e
  · exact absurd h (nI_nle (by omega) (by omega))
theorem xkc_nle {kc : Nat} (h : ¬ nI kc ≤ 0) : 0 < kc := by
  rcases Nat.eq_zero_or_pos kc with e | e
  · exact absurd (by rw [e]; decide) h
  · exact e

def xKeep (tg : xRow) (t : Nat) (f : xRow) : xRow := fun i => if 12 * t ≤ i ∧ i < 12 * t + 12 then f (i - 12 * t) else tg i
theorem xKeep_cpy {tg f : xRow} {kc : Nat} (h : kc < 6) (i : Nat) : va_cpy f tg (0 : Int32).toNatClampNeg (nI (12 * kc)).toNatClampNeg (12 : Int32).toNatClampNeg i = xKeep tg kc f i := by
  show (if (nI (12 * kc)).toNatClampNeg ≤ i ∧ i < (nI (12 * kc)).toNatClampNeg + 12 then f (0 + (i - (nI (12 * kc)).toNatClampNeg)) else tg i) = _
  rw [nI_clamp (by omega), Nat.zero_add]
  rfl
theorem xKeep_c5 {kc : Nat} (h : kc < 6) : (nI (12 * kc)).toNatClampNeg + (12 : Int32).toNatClampNeg ≤ 72 := by
  rw [nI_clamp (by omega)]
  show 12 * kc + 12 ≤ 72
  omega
def xCp (f g : xRow) (k : Nat) : xRow := fun i => if i < k then g i else f i
theorem xCp_0 (f g : xRow) : xCp f g 0 = f := by
  funext i
  unfold xCp
  rw [if_neg (Nat.not_lt_zero i)]
theorem xCp_s (f g : xRow) (k : Nat) : upd (xCp f g k) k (g k) = xCp f g (k + 1) := by
  funext i
  unfold upd xCp
  by_cases h : i = k
  · subst h
    rw [if_pos rfl, if_pos (Nat.lt_succ_self i)]
  · rw [if_neg h]
    by_cases h2 : i < k
    · rw [if_pos h2, if_pos (by omega)]
    · rw [if_neg h2, if_neg (by omega)]
theorem xFirst_le {P : Nat → Bool} {k : Nat} : xFirst P k ≤ k := by
  rcases xFirst_spec (P := P) (k := k) with h | h
  · exact Nat.le_of_lt h.1
  · exact Nat.le_of_eq h.1
/-- what the twin has found behind one more place: found before -/
theorem xFit_k (P : Nat → Bool) {k : Nat} (c : ¬ (if xFirst P k < k then nI (xFirst P k) else -1) = -1) : (if xFirst P (k + 1) < k + 1 then nI (xFirst P (k + 1)) else -1) = (if xFirst P k < k then nI (xFirst P k) else -1) := by
  by_cases h : xFirst P k < k
  · rcases xFirst_spec (P := P) (k := k) with ⟨h1, h2, h3⟩ | ⟨h1, -⟩
    · rw [xFirst_some h2 h3 (k := k + 1) (by omega), if_pos (by omega), if_pos h]
    · omega
  · rw [if_neg h] at c
    exact absurd rfl c
theorem xFit_no (P : Nat → Bool) {k : Nat} (hk : k < 2 ^ 31) (c : (if xFirst P k < k then nI (xFirst P k) else -1) = -1) : ∀ j, j < k → P j = false := by
  rcases xFirst_spec (P := P) (k := k) with ⟨h1, h2, h3⟩ | ⟨-, h2⟩
  · rw [if_pos h1] at c
    have := nI_pos' (n := xFirst P k) (by omega)
    rw [c] at this
    exact absurd this (by decide)
  · exact h2
theorem xFit_n (P : Nat → Bool) {k : Nat} (hk : k < 2 ^ 31) (c : (if xFirst P k < k then nI (xFirst P k) else -1) = -1) (h : P k = false) : (if xFirst P (k + 1) < k + 1 then nI (xFirst P (k + 1)) else -1) = (if xFirst P k < k then nI (xFirst P k) else -1) := by
  have h0 := xFit_no P hk c
  have h1 : ∀ j, j < k + 1 → P j = false := fun j hj => by
    by_cases e : j < k
    · exact h0 j e
    · rw [show j = k by omega]; exact h
  rw [xFirst_none h0, xFirst_none h1, if_neg (Nat.lt_irrefl _), if_neg (Nat.lt_irrefl _)]
theorem xFit_y (P : Nat → Bool) {k : Nat} (hk : k < 2 ^ 31) (c : (if xFirst P k < k then nI (xFirst P k) else -1) = -1) (h : P k = true) : nI k = (if xFirst P (k + 1) < k + 1 then nI (xFirst P (k + 1)) else -1) := by
  rw [xFirst_some h (xFit_no P hk c) (k := k + 1) (by omega), if_pos (by omega)]
theorem xFit_e (P : Nat → Bool) {k n : Nat} (h : k ≤ n) (c : ¬ (if xFirst P k < k then nI (xFirst P k) else -1) = -1) : (if xFirst P k < k then nI (xFirst P k) else -1) = (if xFirst P n < n then nI (xFirst P n) else -1) := by
  by_cases h1 : xFirst P k < k
  · rcases xFirst_spec (P := P) (k := k) with ⟨-, h2, h3⟩ | ⟨h2, -⟩
    · rw [xFirst_some h2 h3 (k := n) (by omega), if_pos h1, if_pos (by omega)]
    · omega
  · rw [if_neg h1] at c
    exact absurd rfl c
theorem xPlM_p {n kc : Nat} {f tg : xRow} {x : Int32} (h : 0 < kc) : xPlM n kc f tg x = if xFirst (xPfM n f (xGt tg 0) x) n < n then nI (xFirst (xPfM n f (xGt tg 0) x) n) else -1 := if_neg (by omega)

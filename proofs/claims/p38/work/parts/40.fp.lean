/-! the quotient of two whole numbers is a number -/
abbrev fB : FP.Core.Fmt := FP.Core.b64
theorem fB_t : fB.tails = 4503599627370496 := by decide +kernel
theorem fB_e : fB.exps = 2048 := by decide +kernel
theorem fB_p : 2 ^ fB.p = 9007199254740992 := by decide +kernel
theorem fB_q : fB.qmin = -1074 ∧ fB.qmax = 971 := by decide +kernel
theorem fAss (s : Bool) {e t : Nat} (he : e ≤ 2047) (ht : t < 4503599627370496) (h : e = 2047 → t = 0) : FP.Core.assemble fB s e t < 18446744073709551616 ∧ FP.Core.assemble fB s e t % 9223372036854775808 ≤ 9218868437227405312 := by
  unfold FP.Core.assemble
  rw [fB_t, fB_e]
  cases s with
  | false =>
    show (0 * 2048 + e) * 4503599627370496 + t < 18446744073709551616 ∧ ((0 * 2048 + e) * 4503599627370496 + t) % 9223372036854775808 ≤ 9218868437227405312
    omega
  | true =>
    show (1 * 2048 + e) * 4503599627370496 + t < 18446744073709551616 ∧ ((1 * 2048 + e) * 4503599627370496 + t) % 9223372036854775808 ≤ 9218868437227405312
    omega
theorem fEnc_inf (s : Bool) : FP.Core.encode fB (.inf s) < 18446744073709551616 ∧ FP.Core.encode fB (.inf s) % 9223372036854775808 ≤ 9218868437227405312 := by
  show FP.Core.assemble fB s (fB.exps - 1) 0 < _ ∧ FP.Core.assemble fB s (fB.exps - 1) 0 % _ ≤ _
  rw [fB_e]
  exact fAss s (by decide) (by decide) (fun _ => rfl)
theorem fEnc_fin (s : Bool) {c : Nat} {q : Int} (hc : c < 9007199254740992) (hq : q ≤ 971) : FP.Core.encode fB (.fin s c q) < 18446744073709551616 ∧ FP.Core.encode fB (.fin s c q) % 9223372036854775808 ≤ 9218868437227405312 := by
  have e : FP.Core.encode fB (.fin s c q) = if c < fB.tails then FP.Core.assemble fB s 0 c else FP.Core.assemble fB s ((q - fB.qmin).toNat + 1) (c - fB.tails) := rfl
  rw [e, fB_t, fB_q.1]
  by_cases h : c < 4503599627370496
  · rw [if_pos h]
    exact fAss s (by omega) h (fun h2 => by omega)
  · rw [if_neg h]
    exact fAss s (by omega) (by omega) (fun h2 => by omega)
theorem fEnc_ratio (s : Bool) (a b : Nat) (e : Int) : FP.Core.encode fB (FP.Core.roundRatio fB s a b e) < 18446744073709551616 ∧ FP.Core.encode fB (FP.Core.roundRatio fB s a b e) % 9223372036854775808 ≤ 9218868437227405312 := by
  have hb : ∀ (c : Nat) (q : Int), c < 9007199254740992 → FP.Core.encode fB (FP.Core.bound fB s c q) < 18446744073709551616 ∧ FP.Core.encode fB (FP.Core.bound fB s c q) % 9223372036854775808 ≤ 9218868437227405312 := by
    intro c q hc
    unfold FP.Core.bound
    rw [fB_q.2]
    by_cases h : q ≤ 971
    · rw [if_pos h]
      exact fEnc_fin s hc h
    · rw [if_neg h]
      exact fEnc_inf s
  unfold FP.Core.roundRatio
  by_cases h : a = 0
  · rw [if_pos h, fB_q.1]
    exact fEnc_fin s (by decide) (by decide)
  · rw [if_neg h]
    unfold FP.Core.roundAt FP.Core.settle
    rw [fB_p]
    split
    · rename_i h2
      exact hb _ _ h2
    · rw [fB_t]
      exact hb _ _ (by decide)
/-- no NaN, by its bits -/
def fOk (v : UInt64) : Prop := v.toNat % 9223372036854775808 ≤ 9218868437227405312
theorem fOk_of {k : Nat} (h : k < 18446744073709551616 ∧ k % 9223372036854775808 ≤ 9218868437227405312) : fOk (.ofNat k) := by
  unfold fOk
  rw [UInt64.toNat_ofNat', Nat.mod_eq_of_lt h.1]
  exact h.2
theorem fOk_nan {v : UInt64} (h : fOk v) : isNaN64 v = false := by
  cases hn : isNaN64 v with
  | false => rfl
  | true =>
    rw [isNaN64_iff] at hn
    have e : v.toNat &&& 0x7fffffffffffffff = v.toNat % 2 ^ 63 := Nat.and_two_pow_sub_one_eq_mod v.toNat 63
    rw [e] at hn
    unfold fOk at h
    omega
theorem fOk_dec {v : UInt64} (h : fOk v) : FP.Core.decode fB v.toNat ≠ .nan := by
  intro hn
  unfold FP.Core.decode FP.Core.fieldE FP.Core.fieldT at hn
  rw [fB_t, fB_e] at hn
  unfold fOk at h
  split at hn
  · split at hn
    · cases hn
    · omega
  · split at hn <;> cases hn
theorem fOrder {d : FP.Core.Datum} (h : d ≠ .nan) : FP.Core.order d d = some .eq := by
  cases d with
  | nan => exact absurd rfl h
  | inf s => simp [FP.Core.order, compare, compareOfLessAndEq]
  | fin s c q => simp [FP.Core.order, compare, compareOfLessAndEq]
theorem fOk_cmp {v : UInt64} (h : fOk v) : FP.dcmp v v = some .eq := fOrder (fOk_dec h)
theorem fOk_alike {r v : UInt64} (h : fOk v) (ha : alike64 r v = true) : r = v := by
  unfold alike64 at ha
  rw [fOk_nan h, Bool.and_false, Bool.or_false] at ha
  exact of_decide_eq_true ha
theorem fI2d (x : Int32) : fOk (FP.i2d x) := fOk_of (fEnc_ratio _ _ _ _)
theorem fDiv {x y : UInt64} (hx : fOk x) {s : Bool} {c : Nat} {q : Int} (hy : FP.Core.decode fB y.toNat = .fin s c q) (hc : c ≠ 0) : fOk (FP.ddiv x y) := by
  have e : FP.ddiv x y = .ofNat (FP.Core.encode fB (FP.Core.quotient fB (FP.Core.decode fB x.toNat) (FP.Core.decode fB y.toNat))) := rfl
  rw [e, hy]
  cases hd : FP.Core.decode fB x.toNat with
  | nan => exact absurd hd (fOk_dec hx)
  | inf t => exact fOk_of (fEnc_inf _)
  | fin t d r =>
    have e2 : FP.Core.quotient fB (.fin t d r) (.fin s c q) = FP.Core.roundRatio fB (t != s) d c (r - q) := if_neg hc
    rw [e2]
    exact fOk_of (fEnc_ratio _ _ _ _)
theorem fN {n : Nat} (h0 : 3 ≤ n) (hn : n ≤ 12) : ∃ (s : Bool) (c : Nat) (q : Int), FP.Core.decode fB (FP.i2d (nI n)).toNat = .fin s c q ∧ c ≠ 0 := by
  have key : ∀ k : Nat, k ∈ [3, 4, 5, 6, 7, 8, 9, 10, 11, 12] → (match FP.Core.decode fB (FP.i2d (nI k)).toNat with | .fin _ c _ => decide (c ≠ 0) | _ => false) = true := by decide +kernel
  have h := key n (by simp; omega)
  cases hd : FP.Core.decode fB (FP.i2d (nI n)).toNat with
  | nan => rw [hd] at h; cases h
  | inf t => rw [hd] at h; cases h
  | fin t d r =>
    rw [hd] at h
    exact ⟨t, d, r, rfl, of_decide_eq_true h⟩
theorem fMean {x : Int32} {n : Nat} (h0 : 3 ≤ n) (hn : n ≤ 12) {a b : UInt64} (ha : alike64 a (FP.ddiv (FP.i2d x) (FP.i2d (nI n))) = true) (hb : alike64 b (FP.ddiv (FP.i2d x) (FP.i2d (nI n))) = true) : Op.cmpValue (FP.dcmp a b) .l = 0 := by
  obtain ⟨s, c, q, h1, h2⟩ := fN h0 hn
  have h := fDiv (fI2d x) h1 h2
  rw [fOk_alike h ha, fOk_alike h hb, fOk_cmp h]
  rfl

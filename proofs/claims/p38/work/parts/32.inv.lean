theorem xCnt_congr {P R : Nat → Bool} : ∀ {k : Nat}, (∀ i, i < k → P i = R i) → xCnt P k = xCnt R k
  | 0, _ => rfl
  | k + 1, h => by
    show xCnt P k + (if P k then 1 else 0) = xCnt R k + (if R k then 1 else 0)
    rw [xCnt_congr (fun i hi => h i (by omega)), h k (Nat.lt_succ_self k)]
theorem xFirst_congr {P R : Nat → Bool} : ∀ {k : Nat}, (∀ i, i < k → P i = R i) → xFirst P k = xFirst R k := by
  intro k h
  rcases xFirst_spec (P := P) (k := k) with ⟨h1, h2, h3⟩ | ⟨h1, h2⟩
  · rw [xFirst_some (P := R) (i := xFirst P k) (by rw [← h _ h1]; exact h2) (fun j hj => by rw [← h j (by omega)]; exact h3 j hj) h1]
  · rw [h1, xFirst_none (P := R) (fun j hj => by rw [← h j hj]; exact h2 j hj)]
theorem xFi_congr {P R : Nat → Bool} {n : Nat} (h : ∀ i, i < n → P i = R i) : xFi P n = xFi R n := by
  unfold xFi
  rw [xFirst_congr h]
theorem xBd_upd {f : xRow} {k : Nat} {x : Int32} (hf : xBd f) (h : -210000 ≤ x.toInt ∧ x.toInt ≤ 210000) : xBd (upd f k x) := by
  intro i hi
  unfold upd
  by_cases e : i = k
  · rw [if_pos e]; exact h
  · rw [if_neg e]; exact hf i hi
theorem xPl_eq {n kc : Nat} {f tg : xRow} {x : Int32} (hn0 : 3 ≤ n) (hn1 : n ≤ 12) (hf : xBd f) (hg : ∀ t, t < kc → xBd (xGt tg t)) (h : -210000 ≤ x.toInt ∧ x.toInt ≤ 210000) : xPlM n kc f tg x = xPl n kc f (xGt tg) x := by
  unfold xPlM xPl
  by_cases hk : kc = 0
  · rw [if_pos hk, if_pos hk]
  · rw [if_neg hk, if_neg hk]
    exact xFi_congr (fun i _ => xSv_eq hn0 hn1 (xBd_upd hf h) (hg 0 (by omega)))
theorem xMT_eq {n kc : Nat} {f tg : xRow} {d : Int64} (hn0 : 3 ≤ n) (hn1 : n ≤ 12) (hf : xBd f) (hg : ∀ t, t < kc → xBd (xGt tg t)) : ∀ k, k ≤ kc → xMTM n f tg d k = xMT n f (xGt tg) d k
  | 0, _ => rfl
  | k + 1, h => by
    show xMx (xMx (xMx (xMTM n f tg d k) _) (xBL (xSv n f (xGt tg k)))) (xFewM n f (xGt tg k)).toInt64 = xMx (xMx (xMx (xMT n f (xGt tg) d k) _) (xBL (xCB n f (xGt tg k)))) (xFew n f (xGt tg k)).toInt64
    rw [xMT_eq hn0 hn1 hf hg k (by omega), xSv_eq hn0 hn1 hf (hg k (by omega)), xFew_eq hn0 hn1 hf (hg k (by omega))]
theorem xDg_eq {n kc : Nat} {f tg : xRow} {td : Int32} (hn0 : 3 ≤ n) (hn1 : n ≤ 12) (hk : kc ≤ 6) (hf : xBd f) (hg : ∀ t, t < kc → xBd (xGt tg t)) : xDgM n kc f tg td = xDg n kc f (xGt tg) td := by
  unfold xDgM xDg
  rw [xMT_eq hn0 hn1 hf hg kc (Nat.le_refl kc), xCnt_congr (P := fun t => xSv n f (xGt tg t)) (R := fun t => xCB n f (xGt tg t)) (k := kc) (fun i hi => xSv_eq hn0 hn1 hf (hg i hi)),
    (xNr_eq (F := fun t => xFew n f (xGt tg t)) (K := fun t => xFewM n f (xGt tg t)) (k := kc) (by omega) (fun i hi => xFew_eq hn0 hn1 hf (hg i hi)) (fun i hi => xFew_I hn0 hn1 hf (hg i hi))).1,
    xRs_eq hn1, xSr_eq hn1, xPl_eq hn0 hn1 hf hg (by decide)]
theorem xNear_eq {n kc : Nat} {f tg : xRow} (hn0 : 3 ≤ n) (hn1 : n ≤ 12) (hk : kc ≤ 6) (hf : xBd f) (hg : ∀ t, t < kc → xBd (xGt tg t)) : (xNrM (fun t9 => xFewM n f (xGt tg t9)) kc).1 = (xNear (fun t9 => xFew n f (xGt tg t9)) kc).1 :=
  (xNr_eq (F := fun t => xFew n f (xGt tg t)) (K := fun t => xFewM n f (xGt tg t)) (k := kc) (by omega) (fun i hi => xFew_eq hn0 hn1 hf (hg i hi)) (fun i hi => xFew_I hn0 hn1 hf (hg i hi))).1
theorem xReach_eq {n kc : Nat} {f tg : xRow} (hn0 : 3 ≤ n) (hn1 : n ≤ 12) (hf : xBd f) (hg : ∀ t, t < kc → xBd (xGt tg t)) : xCnt (fun t9 => xSv n f (xGt tg t9)) kc = xCnt (fun t9 => xCB n f (xGt tg t9)) kc := xCnt_congr (fun i hi => xSv_eq hn0 hn1 hf (hg i hi))
/-! what stays true from call to call -/
def xOkR (B : Int) (n : Nat) (f : xRow) : Prop := (∀ i, i < 12 → -B ≤ (f i).toInt ∧ (f i).toInt ≤ B) ∧ ∀ i, n ≤ i → i < 12 → f i = 0
theorem xOkR.bd {B : Int} {n : Nat} {f : xRow} (h : xOkR B n f) (hB : B ≤ 210000) : xBd f := fun i hi => by
  have := h.1 i hi
  omega
theorem xOkR.mono {B C : Int} {n : Nat} {f : xRow} (h : xOkR B n f) (hB : B ≤ C) : xOkR C n f := ⟨fun i hi => by have := h.1 i hi; omega, h.2⟩
theorem xOkR_0 {B : Int} {n : Nat} (hB : 0 ≤ B) : xOkR B n (fun _ => 0) := ⟨fun _ _ => by rw [Int32.toInt_zero]; omega, fun _ _ _ => rfl⟩
theorem xOkR.put {B : Int} {n k : Nat} {f : xRow} {x : Int32} (h : xOkR B n f) (hk : k < n) (hx : -B ≤ x.toInt ∧ x.toInt ≤ B) : xOkR B n (upd f k x) := by
  refine ⟨fun i hi => ?_, fun i h1 h2 => ?_⟩
  · unfold upd
    by_cases e : i = k
    · rw [if_pos e]; exact hx
    · rw [if_neg e]; exact h.1 i hi
  · unfold upd
    rw [if_neg (by omega)]
    exact h.2 i h1 h2
theorem xWr_3 {n p : Nat} (hn : 3 ≤ n) (hp : p < n) : xWr n ((p : Int) + 1) < n ∧ xWr n ((p : Int) - 1) < n ∧ xWr n ((p : Int) + 1) ≠ p ∧ xWr n ((p : Int) - 1) ≠ p ∧ xWr n ((p : Int) + 1) ≠ xWr n ((p : Int) - 1) := by
  unfold xWr
  refine ⟨?_, ?_, ?_, ?_, ?_⟩ <;> (repeat' split) <;> omega
theorem xOkR.tip {B T : Int} {n p : Nat} {f : xRow} {t : Int32} (h : xOkR B n f) (hn0 : 3 ≤ n) (hn1 : n ≤ 12) (hp : p < n) (ht : -T ≤ t.toInt ∧ t.toInt ≤ T) (hB : 0 ≤ B ∧ B ≤ 1000000) (hT : 0 ≤ T ∧ T ≤ 1000) : xOkR (B + 2 * T) n (xTip n f p t) := by
  obtain ⟨w1, w2, w3, w4, w5⟩ := xWr_3 hn0 hp
  obtain ⟨a, ea⟩ : ∃ a, a = xWr n ((p : Int) + 1) := ⟨_, rfl⟩
  obtain ⟨b, eb⟩ : ∃ b, b = xWr n ((p : Int) - 1) := ⟨_, rfl⟩
  have e2 : ((-2) * t).toInt = -2 * t.toInt := xmulI (by decide) rfl (by omega) (by omega)
  unfold xTip
  rw [← ea, ← eb]
  rw [← ea] at w1 w3 w5
  rw [← eb] at w2 w4 w5
  unfold xAdd upd
  refine ⟨fun i hi => ?_, fun i h1 h2 => ?_⟩
  · have hfi := h.1 i hi
    dsimp only
    by_cases c1 : i = b
    · subst c1
      rw [if_pos rfl, if_neg (Ne.symm w5), if_neg w4]
      rw [xaddI rfl rfl (by omega) (by omega)]
      omega
    · rw [if_neg c1]
      by_cases c2 : i = a
      · subst c2
        rw [if_pos rfl, if_neg w3]
        rw [xaddI rfl rfl (by omega) (by omega)]
        omega
      · rw [if_neg c2]
        by_cases c3 : i = p
        · subst c3
          rw [if_pos rfl]
          rw [xaddI rfl e2 (by omega) (by omega)]
          omega
        · rw [if_neg c3]
          omega
  · dsimp only
    rw [if_neg (by omega), if_neg (by omega), if_neg (by omega)]
    exact h.2 i h1 h2
theorem xOkR.rot {B : Int} {n : Nat} {f : xRow} (h : xOkR B n f) (hn0 : 3 ≤ n) (hn1 : n ≤ 12) : xOkR B n (xRot n f) := by
  unfold xRot
  refine ⟨fun i hi => ?_, fun i h1 h2 => ?_⟩
  · dsimp only
    by_cases c1 : i = 0
    · rw [if_pos c1]; exact h.1 _ (by omega)
    · rw [if_neg c1]
      by_cases c2 : i < n
      · rw [if_pos c2]; exact h.1 _ (by omega)
      · rw [if_neg c2]; exact h.1 i hi
  · dsimp only
    rw [if_neg (by omega), if_neg (by omega)]
    exact h.2 i h1 h2
theorem xOkR.stl {n : Nat} (hn0 : 3 ≤ n) (hn1 : n ≤ 12) : ∀ (k : Nat) {B : Int} {f : xRow}, xOkR B n f → 0 ≤ B → B + 2 * (k : Int) ≤ 1000000 → xOkR (B + 2 * (k : Int)) n (xStl n k f).2
  | 0, B, f, h, _, _ => h.mono (by omega)
  | k + 1, B, f, h, h0, h1 => by
    unfold xStl
    by_cases c : xFirst (xSt n f) n < n
    · rw [if_pos c]
      have h2 := h.tip (T := 1) (t := 1) hn0 hn1 c (by decide) ⟨h0, by omega⟩ (by decide)
      exact (xOkR.stl hn0 hn1 k h2 (by omega) (by omega)).mono (by omega)
    · rw [if_neg c]
      exact h.mono (by omega)
/-! what a call is given -/
theorem xInB_t {x a b : Int32} (h : xInB x a b = true) : ¬ x < a ∧ x ≤ b := by
  unfold xInB at h
  rw [Bool.and_eq_true, decide_eq_true_iff, decide_eq_true_iff] at h
  exact ⟨Int32.not_lt.mpr h.1, h.2⟩
theorem xInB_pl {x : Int32} {n : Nat} (hn : n ≤ 12) (h : xInB x 0 (nI n - 1) = true) : ∃ k, k < n ∧ x = nI k := by
  obtain ⟨h1, h2⟩ := xInB_t h
  obtain ⟨j, hj, rfl⟩ := nI_of h1
  refine ⟨j, ?_, rfl⟩
  rw [Int32.le_iff_toInt_le, nI_toInt hj, xsubI (nI_toInt (n := n) (by omega)) (show (1 : Int32).toInt = 1 from rfl) (by omega) (by omega)] at h2
  omega
theorem xInB_n {x : Int32} {a b : Nat} (ha : a < 1000) (hb : b < 1000) (h : xInB x (nI a) (nI b) = true) : ∃ k, a ≤ k ∧ k ≤ b ∧ x = nI k := by
  obtain ⟨h1, h2⟩ := xInB_t h
  have h3 : ¬ x < 0 := by
    intro h4
    apply h1
    rw [Int32.lt_iff_toInt_lt] at h4 ⊢
    rw [nI_toInt (n := a) (by omega)]
    rw [Int32.toInt_zero] at h4
    omega
  obtain ⟨j, hj, rfl⟩ := nI_of h3
  rw [Int32.lt_iff_toInt_lt, nI_toInt hj, nI_toInt (n := a) (by omega)] at h1
  rw [Int32.le_iff_toInt_le, nI_toInt hj, nI_toInt (n := b) (by omega)] at h2
  exact ⟨j, by omega, by omega, rfl⟩
def xInv (j n kc : Nat) (f : xRow) (ks : Nat → xRow) : Prop := 3 ≤ n ∧ n ≤ 12 ∧ kc ≤ 6 ∧ j ≤ 512 ∧ xOkR (1000 + 400 * (j : Int)) n f ∧ ∀ t, t < kc → xOkR (1000 + 400 * (j : Int)) n (ks t)
theorem xInv.f {j n kc : Nat} {f : xRow} {ks : Nat → xRow} (h : xInv j n kc f ks) : xBd f := h.2.2.2.2.1.bd (by have := h.2.2.2.1; omega)
theorem xInv.g {j n kc : Nat} {f : xRow} {ks : Nat → xRow} (h : xInv j n kc f ks) : ∀ t, t < kc → xBd (ks t) := fun t ht => (h.2.2.2.2.2 t ht).bd (by have := h.2.2.2.1; omega)
theorem xInv.same {j n kc : Nat} {f : xRow} {ks : Nat → xRow} (h : xInv j n kc f ks) (hj : j < 512) : xInv (j + 1) n kc f ks := ⟨h.1, h.2.1, h.2.2.1, hj, h.2.2.2.2.1.mono (by omega), fun t ht => (h.2.2.2.2.2 t ht).mono (by omega)⟩
theorem xInv.row {j n kc : Nat} {f f2 : xRow} {ks : Nat → xRow} (h : xInv j n kc f ks) (hj : j < 512) (h2 : xOkR (1000 + 400 * ((j + 1 : Nat) : Int)) n f2) : xInv (j + 1) n kc f2 ks := ⟨h.1, h.2.1, h.2.2.1, hj, h2, fun t ht => (h.2.2.2.2.2 t ht).mono (by omega)⟩
theorem xInv.lay {j n kc k : Nat} {f : xRow} {ks : Nat → xRow} (h : xInv j n kc f ks) (hj : j < 512) (h1 : 3 ≤ k) (h2 : k ≤ 12) : xInv (j + 1) k 0 (fun _ => 0) ks := ⟨h1, h2, by decide, hj, xOkR_0 (by omega), fun t ht => absurd ht (Nat.not_lt_zero t)⟩
theorem xInv.put {j n kc k : Nat} {f : xRow} {ks : Nat → xRow} {x : Int32} (h : xInv j n kc f ks) (hj : j < 512) (hk : k < n) (h1 : ¬ x < (-999)) (h2 : x ≤ 999) : xInv (j + 1) n kc (upd f k x) ks := by
  refine h.row hj ((h.2.2.2.2.1.mono (by omega)).put hk ?_)
  rw [Int32.lt_iff_toInt_lt] at h1
  rw [Int32.le_iff_toInt_le] at h2
  have e1 : (-999 : Int32).toInt = -999 := by decide
  have e2 : (999 : Int32).toInt = 999 := by decide
  omega
theorem xInv.tip {j n kc k : Nat} {f : xRow} {ks : Nat → xRow} {x : Int32} (h : xInv j n kc f ks) (hj : j < 512) (hk : k < n) (h1 : ¬ x < (-50)) (h2 : x ≤ 50) : xInv (j + 1) n kc (xTip n f k x) ks := by
  rw [Int32.lt_iff_toInt_lt] at h1
  rw [Int32.le_iff_toInt_le] at h2
  have e1 : (-50 : Int32).toInt = -50 := by decide
  have e2 : (50 : Int32).toInt = 50 := by decide
  exact h.row hj ((h.2.2.2.2.1.tip (T := 50) h.1 h.2.1 hk (by omega) (by omega) (by decide)).mono (by omega))
theorem xInv.rot {j n kc : Nat} {f : xRow} {ks : Nat → xRow} (h : xInv j n kc f ks) (hj : j < 512) : xInv (j + 1) n kc (xRot n f) ks := h.row hj ((h.2.2.2.2.1.rot h.1 h.2.1).mono (by omega))
theorem xInv.stl {j n kc k : Nat} {f : xRow} {ks : Nat → xRow} (h : xInv j n kc f ks) (hj : j < 512) (hk : k ≤ 200) : xInv (j + 1) n kc (xStl n k f).2 ks := h.row hj ((xOkR.stl h.1 h.2.1 k h.2.2.2.2.1 (by omega) (by omega)).mono (by omega))
theorem xInv.reach {j n kc k : Nat} {f : xRow} {ks : Nat → xRow} (h : xInv j n kc f ks) (hj : j < 512) (hk : k < kc) : xInv (j + 1) n kc (ks k) ks := h.row hj ((h.2.2.2.2.2 k hk).mono (by omega))
theorem xInv.keep {j n kc : Nat} {f : xRow} {ks : Nat → xRow} (h : xInv j n kc f ks) (hj : j < 512) (hk : kc < 6) : xInv (j + 1) n (kc + 1) f (fun i => if i = kc then f else ks i) := by
  refine ⟨h.1, h.2.1, hk, hj, h.2.2.2.2.1.mono (by omega), fun t ht => ?_⟩
  show xOkR (1000 + 400 * ((j + 1 : Nat) : Int)) n (if t = kc then f else ks t)
  by_cases c : t = kc
  · rw [if_pos c]
    exact h.2.2.2.2.1.mono (by omega)
  · rw [if_neg c]
    exact (h.2.2.2.2.2 t (by omega)).mono (by omega)

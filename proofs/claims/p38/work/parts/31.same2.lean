theorem itm {n : Nat} (hn0 : 3 ≤ n) (hn1 : n ≤ 12) (o : Int) : (o - o.tdiv n * n = 0 ↔ o % (n : Int) = 0) ∧ (o % (n : Int) = 0 → (-o).tdiv n * (n : Int) = -o) := by
  rw [xtdiv_n hn0 hn1, xtdiv_n hn0 hn1]
  refine xn_cases (P := fun n : Nat => (o - (if 0 ≤ o then o / (n : Int) else -(-o / (n : Int))) * (n : Int) = 0 ↔ o % (n : Int) = 0) ∧ (o % (n : Int) = 0 → (if 0 ≤ -o then -o / (n : Int) else -(- -o / (n : Int))) * (n : Int) = -o)) hn0 hn1 ?_ ?_ ?_ ?_ ?_ ?_ ?_ ?_ ?_ ?_ <;> refine ⟨?_, ?_⟩ <;> split <;> omega
theorem xMm_iff {n : Nat} {f g : xRow} (hn0 : 3 ≤ n) (hn1 : n ≤ 12) (hf : xBd f) (hg : xBd g) : xMm n f = xMm n g ↔ iM (xZ f) n % (n : Int) = iM (xZ g) n % (n : Int) := by
  have h1 := (xMom_I hf n hn1).1
  have h2 := (xMom_I hg n hn1).1
  have e1 : (xMm n f).toInt = iM (xZ f) n % (n : Int) := by rw [← h1]; exact xFm_toInt hn0 hn1
  have e2 : (xMm n g).toInt = iM (xZ g) n % (n : Int) := by rw [← h2]; exact xFm_toInt hn0 hn1
  refine ⟨fun h => by rw [← e1, ← e2, h], fun h => xI_ext (by rw [e1, e2, h])⟩
theorem xTot_iff {n : Nat} {f g : xRow} (hn1 : n ≤ 12) (hf : xBd f) (hg : xBd g) : xTot f n = xTot g n ↔ iT (xZ f) n = iT (xZ g) n := by
  have h1 := (xTot_I hf n hn1).1
  have h2 := (xTot_I hg n hn1).1
  refine ⟨fun h => by rw [← h1, ← h2, h], fun h => xI_ext (by rw [h1, h2, h])⟩
theorem xCB_iff {n : Nat} {f g : xRow} (hn0 : 3 ≤ n) (hn1 : n ≤ 12) (hf : xBd f) (hg : xBd g) : xCB n f g = true ↔ iT (xZ f) n = iT (xZ g) n ∧ iO n (xZ f) (xZ g) (n - 1) % (n : Int) = 0 := by
  unfold xCB
  rw [Bool.and_eq_true, decide_eq_true_iff, decide_eq_true_iff, xTot_iff hn1 hf hg, xMm_iff hn0 hn1 hf hg, iMod hn0 hn1]
theorem xFC_I {n : Nat} {f g : xRow} (hn0 : 3 ≤ n) (hn1 : n ≤ 12) (hf : xBd f) (hg : xBd g) : (xFC n f g).toInt = (-(iO n (xZ f) (xZ g) (n - 1))).tdiv n := by
  obtain ⟨h1, h2, h3⟩ := xOth_I hn1 hf hg (n - 1) (by omega)
  unfold xFC
  exact xdivI (xnegI h1 (by omega) (by omega)) (nI_toInt (n := n) (by omega)) (by omega)
theorem xD_bd {f g : xRow} (hf : xBd f) (hg : xBd g) : ∀ i, i < 12 → -420000 ≤ xZ g i - xZ f i ∧ xZ g i - xZ f i ≤ 420000 := fun i hi => (xSub_I hf hg hi).2
theorem xSv_eq {n : Nat} {f g : xRow} (hn0 : 3 ≤ n) (hn1 : n ≤ 12) (hf : xBd f) (hg : xBd g) : xSv n f g = xCB n f g := by
  obtain ⟨h1, h2, h3⟩ := xOth_I hn1 hf hg (n - 1) (by omega)
  obtain ⟨t1, t2⟩ := itm hn0 hn1 (iO n (xZ f) (xZ g) (n - 1))
  have hcb := xCB_iff hn0 hn1 hf hg
  have e0 : (xOff n f g - xOff n f g / nI n * nI n).toInt = iO n (xZ f) (xZ g) (n - 1) - (iO n (xZ f) (xZ g) (n - 1)).tdiv n * n := by
    rw [xOff_eq hn0]
    exact xremI h1 (nI_toInt (n := n) (by omega)) (by omega)
  by_cases ho : iO n (xZ f) (xZ g) (n - 1) % (n : Int) = 0
  · have hc := t2 ho
    have hc0 := xFC_I hn0 hn1 hf hg
    obtain ⟨c, ec⟩ : ∃ c, c = (-(iO n (xZ f) (xZ g) (n - 1))).tdiv n := ⟨_, rfl⟩
    rw [← ec] at hc hc0
    have hcb2 := iBd hn0 hn1 (xZ f) (xZ g) c hc (xD_bd hf hg)
    obtain ⟨k1, k2⟩ := iKey hn0 hn1 (xZ f) (xZ g) c hc
    have g0 := xHt_I (C := 2310000) hf hg hc0 hcb2 (by decide)
    have gn := g0 n hn1
    have gm := g0 (n - 1) (by omega)
    have hn : xHt n f g n = 0 := xI_ext (by rw [gn.1, k1]; rfl)
    have c1 : xOff n f g - xOff n f g / nI n * nI n = 0 := xI_ext (by rw [e0, t1.mpr ho]; rfl)
    have c2 : xAr n f g (xFst1 n f g) n = 0 := by rw [xAr_ht hn0 (Nat.le_refl n), hn]
    have f0 := hf 0 (by decide)
    have g00 := hg 0 (by decide)
    have e3 : (xAr n f g (xFst1 n f g) (n + 1)).toInt = 0 - iH c (xZ f) (xZ g) (n - 1) - (xZ f 0 - xZ g 0) := by
      rw [xAr_last hn0, hn]
      show (2 * 0 - xHt n f g (n - 1) - (f 0 - g 0)).toInt = 0 - iH c (xZ f) (xZ g) (n - 1) - ((f 0).toInt - (g 0).toInt)
      exact xsubI (xsubI (by decide) gm.1 (by omega) (by omega)) (xsubI rfl rfl (by omega) (by omega)) (by omega) (by omega)
    have e4 : (xFst1 n f g).toInt = c := by rw [xFst1_eq hn0]; exact hc0
    by_cases hT : iT (xZ f) n = iT (xZ g) n
    · have c3 : xAr n f g (xFst1 n f g) (n + 1) = xFst1 n f g := xI_ext (by rw [e3, e4]; exact k2.mpr hT)
      rw [xSv_3 c1 c2 c3, hcb.mpr ⟨hT, ho⟩]
    · have c3 : ¬ xAr n f g (xFst1 n f g) (n + 1) = xFst1 n f g := fun h => hT (k2.mp (by rw [← e3, h, e4]))
      rw [xSv_2 c3]
      cases h9 : xCB n f g
      · rfl
      · exact absurd (hcb.mp h9).1 hT
  · have c1 : ¬ xOff n f g - xOff n f g / nI n * nI n = 0 := fun h => ho (t1.mp (by rw [← e0, h]; rfl))
    rw [xSv_0 c1]
    cases h9 : xCB n f g
    · rfl
    · exact absurd (hcb.mp h9).2 ho
/-! the fewest tips are no negative number, and far from the greatest -/
theorem xHt_J {n : Nat} {f g : xRow} {c : Int} (hf : xBd f) (hg : xBd g) (hc : (xFC n f g).toInt = c) (hc1 : -2310000 ≤ c ∧ c ≤ 2310000) : ∀ k, k ≤ 11 → -76230000 ≤ (xHt n f g k).toInt ∧ (xHt n f g k).toInt ≤ 76230000 := by
  have key : ∀ k : Nat, k ≤ 11 → -(6930000 * (k : Int)) ≤ (xHt n f g k).toInt ∧ (xHt n f g k).toInt ≤ 6930000 * (k : Int) := by
    intro k
    induction k with
    | zero =>
      intro _
      show -(6930000 * ((0 : Nat) : Int)) ≤ (0 : Int32).toInt ∧ (0 : Int32).toInt ≤ 6930000 * ((0 : Nat) : Int)
      decide
    | succ k ih =>
      intro hk
      have h1 := ih (by omega)
      obtain ⟨e1, h4, h5⟩ := xCl_I hf hg hc (by omega) (k + 1) (by omega)
      have e3 : (xHt n f g (k + 1)).toInt = (xHt n f g k).toInt + iC c (xZ f) (xZ g) (k + 1) := xaddI rfl e1 (by omega) (by omega)
      rw [e3]
      omega
  intro k hk
  have := key k hk
  omega
theorem xAbs_I {y : Int32} {M : Int} (h : -M ≤ y.toInt ∧ y.toInt ≤ M) (hM : M < 2147483648) : 0 ≤ (xAbs y).toInt ∧ (xAbs y).toInt ≤ M := by
  unfold xAbs
  by_cases h0 : 0 ≤ y
  · rw [if_pos h0]
    rw [Int32.le_iff_toInt_le, Int32.toInt_zero] at h0
    omega
  · rw [if_neg h0]
    rw [Int32.le_iff_toInt_le, Int32.toInt_zero] at h0
    have e := xsubI (x := 0) (y := y) Int32.toInt_zero rfl (by omega) (by omega)
    rw [e]
    omega
theorem xAw_I {h : xRow} {x : Int32} {n : Nat} (hn : n ≤ 12) (hh : ∀ k, k < n → -152500000 ≤ (h k - x).toInt ∧ (h k - x).toInt ≤ 152500000) : ∀ k, k ≤ n → 0 ≤ (xAw h x k).toInt ∧ (xAw h x k).toInt ≤ 152500000 * (k : Int)
  | 0, _ => ⟨by show 0 ≤ (0 : Int32).toInt; decide, by show (0 : Int32).toInt ≤ 152500000 * ((0 : Nat) : Int); decide⟩
  | k + 1, hk => by
    obtain ⟨h1, h2⟩ := xAw_I hn hh k (by omega)
    have h3 := xAbs_I (hh k (by omega)) (by decide)
    have e : (xAw h x (k + 1)).toInt = (xAw h x k).toInt + (xAbs (h k - x)).toInt := xaddI rfl rfl (by omega) (by omega)
    rw [e]
    omega
theorem xLo_is (G : Nat → Int32) : ∀ k, ∃ i, i ≤ k ∧ xLo G k = G i
  | 0 => ⟨0, Nat.le_refl 0, rfl⟩
  | k + 1 => by
    obtain ⟨i, h1, h2⟩ := xLo_is G k
    by_cases h : G (k + 1) < xLo G k
    · exact ⟨k + 1, Nat.le_refl _, if_pos h⟩
    · exact ⟨i, by omega, (if_neg h).trans h2⟩
theorem xWay_I {n : Nat} {f g : xRow} (hn0 : 3 ≤ n) (hn1 : n ≤ 12) (hf : xBd f) (hg : xBd g) (hcb : xCB n f g = true) : 0 ≤ (xWay n f g).toInt ∧ (xWay n f g).toInt < 2147483647 := by
  obtain ⟨hT, ho⟩ := (xCB_iff hn0 hn1 hf hg).mp hcb
  obtain ⟨t1, t2⟩ := itm hn0 hn1 (iO n (xZ f) (xZ g) (n - 1))
  have hc := t2 ho
  have hc0 := xFC_I hn0 hn1 hf hg
  obtain ⟨c, ec⟩ : ∃ c, c = (-(iO n (xZ f) (xZ g) (n - 1))).tdiv n := ⟨_, rfl⟩
  rw [← ec] at hc hc0
  have hcb2 := iBd hn0 hn1 (xZ f) (xZ g) c hc (xD_bd hf hg)
  have g0 := xHt_J hf hg hc0 hcb2
  unfold xWay xFw
  obtain ⟨i, hi, e⟩ := xLo_is (fun p => xAw (xHt n f g) (xHt n f g p) n) (n - 1)
  rw [e]
  have h5 := xAw_I (h := xHt n f g) (x := xHt n f g i) hn1 (fun k hk => by
    have a1 := g0 k (by omega)
    have a2 := g0 i (by omega)
    rw [xsubI rfl rfl (by omega) (by omega)]
    omega) n (Nat.le_refl n)
  show 0 ≤ (xAw (xHt n f g) (xHt n f g i) n).toInt ∧ (xAw (xHt n f g) (xHt n f g i) n).toInt < 2147483647
  omega
theorem xMf_lo (G : Nat → Int32) : ∀ k, xMf G (k + 1) = xLo G k
  | 0 => by
    show (if G 0 < 2147483647 then G 0 else 2147483647) = G 0
    by_cases h : G 0 < 2147483647
    · exact if_pos h
    · rw [if_neg h]
      apply xI_ext
      rw [Int32.lt_iff_toInt_lt] at h
      have h1 := fb_rng (G 0)
      have h2 : (2147483647 : Int32).toInt = 2147483647 := by decide
      omega
  | k + 1 => by
    show (if G (k + 1) < xMf G (k + 1) then G (k + 1) else xMf G (k + 1)) = if G (k + 1) < xLo G k then G (k + 1) else xLo G k
    rw [xMf_lo G k]
theorem xMw_fw {n : Nat} (hn0 : 3 ≤ n) (h : xRow) : xMw n h = xFw n h := by
  unfold xMw xFw
  obtain ⟨k, rfl⟩ : ∃ k, n = k + 1 := ⟨n - 1, by omega⟩
  exact xMf_lo _ k
theorem xFew_eq {n : Nat} {f g : xRow} (hn0 : 3 ≤ n) (hn1 : n ≤ 12) (hf : xBd f) (hg : xBd g) : xFewM n f g = xFew n f g := by
  unfold xFewM xFew xWay
  rw [xSv_eq hn0 hn1 hf hg, xMw_congr (h := xAr n f g (xFst1 n f g)) (g := xHt n f g) (fun i hi => xAr_ht hn0 (Nat.le_of_lt hi)), xMw_fw hn0]
theorem xFew_I {n : Nat} {f g : xRow} (hn0 : 3 ≤ n) (hn1 : n ≤ 12) (hf : xBd f) (hg : xBd g) : xFew n f g = -1 ∨ (0 ≤ xFew n f g ∧ xFew n f g < 2147483647) := by
  unfold xFew
  by_cases h : xCB n f g = true
  · rw [if_pos h]
    obtain ⟨h1, h2⟩ := xWay_I hn0 hn1 hf hg h
    refine Or.inr ⟨?_, ?_⟩
    · rw [Int32.le_iff_toInt_le, Int32.toInt_zero]; exact h1
    · rw [Int32.lt_iff_toInt_lt]; exact h2
  · rw [if_neg h]; exact Or.inl rfl
theorem xNr_eq {F K : Nat → Int32} : ∀ {k : Nat}, k < 2 ^ 31 → (∀ i, i < k → K i = F i) → (∀ i, i < k → F i = -1 ∨ (0 ≤ F i ∧ F i < 2147483647)) → (xNrM K k).1 = (xNear F k).1 ∧ (((xNear F k).1 < 0 ∧ (xNrM K k).2 = 2147483647) ∨ (¬ (xNear F k).1 < 0 ∧ (xNrM K k).2 = (xNear F k).2))
  | 0, _, _, _ => ⟨rfl, Or.inl ⟨(by decide : (-1 : Int32) < 0), rfl⟩⟩
  | k + 1, hk, hK, hF => by
    obtain ⟨h1, h2⟩ := xNr_eq (F := F) (K := K) (k := k) (by omega) (fun i hi => hK i (by omega)) (fun i hi => hF i (by omega))
    have e := hK k (Nat.lt_succ_self k)
    rcases hF k (Nat.lt_succ_self k) with h3 | ⟨h3, h4⟩
    · have a1 : ¬ (0 ≤ F k ∧ ((xNear F k).1 < 0 ∨ F k < (xNear F k).2)) := fun h => by rw [h3] at h; exact absurd h.1 (by decide)
      have a2 : ¬ (¬ K k = -1 ∧ K k < (xNrM K k).2) := fun h => h.1 (by rw [e, h3])
      rw [xNear_f a1, xNrM_f a2]
      exact ⟨h1, h2⟩
    · have a3 : ¬ K k = -1 := fun h => by rw [e] at h; rw [h] at h3; exact absurd h3 (by decide)
      have done : (xNear F (k + 1)) = (nI k, F k) → (xNrM K (k + 1)) = (nI k, K k) → (xNrM K (k + 1)).1 = (xNear F (k + 1)).1 ∧ (((xNear F (k + 1)).1 < 0 ∧ (xNrM K (k + 1)).2 = 2147483647) ∨ (¬ (xNear F (k + 1)).1 < 0 ∧ (xNrM K (k + 1)).2 = (xNear F (k + 1)).2)) := fun q1 q2 => by
        rw [q1, q2]
        exact ⟨rfl, Or.inr ⟨nI_pos (n := k) (by omega), e⟩⟩
      rcases h2 with ⟨b1, b2⟩ | ⟨b1, b2⟩
      · exact done (xNear_t ⟨h3, Or.inl b1⟩) (xNrM_t ⟨a3, by rw [b2, e]; exact h4⟩)
      · by_cases h5 : F k < (xNear F k).2
        · exact done (xNear_t ⟨h3, Or.inr h5⟩) (xNrM_t ⟨a3, by rw [b2, e]; exact h5⟩)
        · rw [xNear_f (fun h => h.2.elim (fun q => b1 q) (fun q => h5 q)), xNrM_f (fun h => h5 (by have := h.2; rw [b2, e] at this; exact this))]
          exact ⟨h1, Or.inr ⟨b1, b2⟩⟩
theorem xFi_two (P : Nat → Bool) {n : Nat} (hn1 : n ≤ 12) : (xFi P n = -1 ∧ ¬ 0 ≤ xFi P n) ∨ (¬ xFi P n = -1 ∧ 0 ≤ xFi P n) := by
  unfold xFi
  by_cases h : xFirst P n < n
  · rw [if_pos h]
    have h1 := nI_pos' (n := xFirst P n) (by omega)
    exact Or.inr ⟨fun e => by rw [e] at h1; exact absurd h1 (by decide), h1⟩
  · rw [if_neg h]
    exact Or.inl ⟨rfl, by decide⟩
theorem xRs_eq {n : Nat} {f : xRow} (hn1 : n ≤ 12) : xRsM n f = xRs n f := by
  unfold xRsM xRs
  rcases xFi_two (xSt n (xStl n 300 f).2) hn1 with ⟨h1, h2⟩ | ⟨h1, h2⟩
  · rw [if_pos h1, if_neg h2]
  · rw [if_neg h1, if_pos h2]
theorem xSr_eq {n : Nat} {f : xRow} (hn1 : n ≤ 12) : xSrM n f = xSr n f := by
  unfold xSrM xSr
  rw [xRs_eq hn1]
  have h9 : xRs n f = -1 ∨ 0 ≤ xRs n f := by
    unfold xRs
    split
    · exact Or.inl rfl
    · exact Or.inr (nI_pos' (by have := xStl_le n 300 f; omega))
  rcases h9 with h | h
  · rw [if_pos h, h]
    rfl
  · rw [if_neg (fun e => by rw [e] at h; exact absurd h (by decide)), if_pos h]

/-! what the law says of the answers, in their own words -/
def xTS (n : Nat) (f : xRow) : Nat → Int32
  | 0 => 0
  | k + 1 => xTS n f k + xTlt n f k
set_option maxHeartbeats 8000000 in
theorem xTS_0 {n : Nat} {f : xRow} (hn0 : 3 ≤ n) (hn1 : n ≤ 12) : xTS n f n = 0 := by
  refine xn_cases (P := fun n : Nat => xTS n f n = 0) hn0 hn1 ?_ ?_ ?_ ?_ ?_ ?_ ?_ ?_ ?_ ?_ <;> simp [xTS, xTlt, xTl, xWr, nI] <;> grind
theorem xBa_min (G : Nat → Int32) : ∀ k i, i ≤ k → (xAbs (G (xBa G k))).toInt ≤ (xAbs (G i)).toInt
  | 0, i, h => by rw [show i = 0 by omega]; exact Int.le_refl _
  | k + 1, i, h => by
    show (xAbs (G (if xAbs (G (k + 1)) < xAbs (G (xBa G k)) then k + 1 else xBa G k))).toInt ≤ _
    by_cases c : xAbs (G (k + 1)) < xAbs (G (xBa G k))
    · rw [if_pos c]
      rw [Int32.lt_iff_toInt_lt] at c
      by_cases e : i = k + 1
      · rw [e]; exact Int.le_refl _
      · have := xBa_min G k i (by omega)
        omega
    · rw [if_neg c]
      rw [Int32.lt_iff_toInt_lt] at c
      by_cases e : i = k + 1
      · rw [e]; omega
      · exact xBa_min G k i (by omega)
theorem xBest {n k : Nat} {f : xRow} (hk : k < n) : ¬ xAbs (xTlt n f k) < xAbs (xTlt n f (xBa (xTlt n f) (n - 1))) := by
  rw [Int32.lt_iff_toInt_lt]
  have := xBa_min (xTlt n f) (n - 1) k (by omega)
  omega
theorem xHi_ge (f : xRow) : ∀ k i, i ≤ k → (f i).toInt ≤ (xHi f k).toInt
  | 0, i, h => by rw [show i = 0 by omega]; exact Int.le_refl _
  | k + 1, i, h => by
    show _ ≤ (if xHi f k < f (k + 1) then f (k + 1) else xHi f k).toInt
    by_cases c : xHi f k < f (k + 1)
    · rw [if_pos c]
      rw [Int32.lt_iff_toInt_lt] at c
      by_cases e : i = k + 1
      · rw [e]; exact Int.le_refl _
      · have := xHi_ge f k i (by omega)
        omega
    · rw [if_neg c]
      rw [Int32.lt_iff_toInt_lt] at c
      by_cases e : i = k + 1
      · rw [e]; omega
      · exact xHi_ge f k i (by omega)
theorem xTop_ge {n k : Nat} {f : xRow} (hk : k < n) : ¬ f (xTopI f (n - 1)) < f k := by
  rw [xTop_hi f (n - 1), Int32.lt_iff_toInt_lt]
  have := xHi_ge f (n - 1) k (by omega)
  omega
theorem xLow_le {n k : Nat} {f : xRow} (hk : k < n) : ¬ f k < f (xTopI f (n - 1)) - xSpn n f := by
  have e : f (xTopI f (n - 1)) - xSpn n f = xLo f (n - 1) := by
    unfold xSpn
    grind
  rw [e, Int32.lt_iff_toInt_lt]
  have := xLo_le f (n - 1) k (by omega)
  omega
theorem xFi_le {P : Nat → Bool} {n k : Nat} (hn : n ≤ 12) (hk : k < n) (h : P k = true) : xFi P n ≤ nI k := by
  rcases xFirst_spec (P := P) (k := n) with ⟨h1, h2, h3⟩ | ⟨h1, h2⟩
  · unfold xFi
    rw [if_pos h1]
    apply nI_le
    · apply Classical.byContradiction
      intro h4
      have := h3 k (by omega)
      rw [h] at this
      cases this
    · omega
  · have := h2 k hk
    rw [h] at this
    cases this
theorem xCnt_0 {P : Nat → Bool} : ∀ {k : Nat}, xCnt P k = 0 ↔ ∀ i, i < k → P i = false
  | 0 => ⟨fun _ i h => absurd h (Nat.not_lt_zero i), fun _ => rfl⟩
  | k + 1 => by
    have ih := xCnt_0 (P := P) (k := k)
    constructor
    · intro h i hi
      have h1 : xCnt P k + (if P k then 1 else 0) = 0 := h
      cases hP : P k with
      | true => rw [hP] at h1; simp at h1
      | false =>
        by_cases e : i = k
        · rw [e]; exact hP
        · exact ih.mp (by omega) i (by omega)
    · intro h
      show xCnt P k + (if P k then 1 else 0) = 0
      rw [ih.mpr (fun i hi => h i (by omega)), h k (Nat.lt_succ_self k)]
      rfl
theorem xFi_cnt {P : Nat → Bool} {n : Nat} (hn : n ≤ 12) : (xCnt P n = 0 ∧ xFi P n = -1) ∨ (0 < xCnt P n ∧ xFirst P n < n ∧ xFi P n = nI (xFirst P n) ∧ P (xFirst P n) = true) := by
  rcases xFirst_spec (P := P) (k := n) with ⟨h1, h2, h3⟩ | ⟨h1, h2⟩
  · refine Or.inr ⟨?_, h1, if_pos h1, h2⟩
    apply Nat.pos_of_ne_zero
    intro h
    have := xCnt_0.mp h _ h1
    rw [h2] at this
    cases this
  · exact Or.inl ⟨xCnt_0.mpr h2, xFi_none h2⟩
theorem nI_00 {k : Nat} (hk : k < 1000) : nI k = 0 ↔ k = 0 := nI_eq (a := k) (b := 0) (by omega) (by omega)
theorem xRs_0 {n : Nat} {f : xRow} (hn : n ≤ 12) : xRs n f = 0 ↔ xCnt (xSt n f) n = 0 := by
  have hs : ∀ g : xRow, xCnt (xSt n g) n = 0 ↔ ¬ xFirst (xSt n g) n < n := fun g => by
    rcases xFi_cnt (P := xSt n g) hn with ⟨h1, h2⟩ | ⟨h1, h2, h3, h4⟩
    · refine ⟨fun _ => ?_, fun _ => h1⟩
      intro h
      rcases xFirst_spec (P := xSt n g) (k := n) with ⟨a1, a2, a3⟩ | ⟨a1, a2⟩
      · have := xCnt_0.mp h1 _ a1
        rw [a2] at this
        cases this
      · omega
    · exact ⟨fun h => by omega, fun h => absurd h2 h⟩
  by_cases c : xFirst (xSt n f) n < n
  · have h1 := (not_congr (hs f)).mpr (fun h => h c)
    refine ⟨fun h => ?_, fun h => absurd h h1⟩
    exfalso
    unfold xRs at h
    split at h
    · exact absurd h (by decide)
    · have h2 := (nI_00 (k := (xStl n 300 f).1) (by have := xStl_le n 300 f; omega)).mp h
      rw [xStl_t 299 c] at h2
      exact absurd h2 (Nat.succ_ne_zero _)
  · refine ⟨fun _ => (hs f).mpr c, fun _ => ?_⟩
    unfold xRs
    rw [xStl_f 299 c]
    have h3 := xFi_cnt (P := xSt n f) hn
    rw [if_neg]
    · rfl
    · intro h4
      exact c (xFi_ge (n := n) (P := xSt n f) (by omega) h4).1
/-! differences, and what can be reached -/
theorem xNe_tot {f g : xRow} : ∀ {k : Nat}, (xCnt (xNe f g) k = 0 → xTot f k = xTot g k) ∧ (xCnt (xNe f g) k = 1 → ¬ xTot f k = xTot g k)
  | 0 => ⟨fun _ => rfl, fun h => absurd h (show ¬ (0 : Nat) = 1 by decide)⟩
  | k + 1 => by
    obtain ⟨h1, h2⟩ := xNe_tot (f := f) (g := g) (k := k)
    have e : ∀ u : xRow, xTot u (k + 1) = xTot u k + u k := fun _ => rfl
    rw [e, e]
    cases hk : xNe f g k with
    | true =>
      rw [xCnt_t hk]
      have hd : ¬ f k = g k := of_decide_eq_true hk
      refine ⟨fun h => absurd h (Nat.succ_ne_zero _), fun h => ?_⟩
      rw [h1 (by omega)]
      intro h3
      exact hd (by grind)
    | false =>
      rw [xCnt_f hk]
      have hd : f k = g k := Classical.byContradiction (fun h => by rw [xNe_t h] at hk; cases hk)
      rw [hd]
      refine ⟨fun h => by rw [h1 h], fun h h3 => h2 h (by grind)⟩
theorem xOne_no {n : Nat} {f g : xRow} (h : xCnt (xNe f g) n = 1) : xCB n f g = false := xCB_0 (xNe_tot.2 h)
theorem xNe_0 {n : Nat} {f g : xRow} (h : xCnt (xNe f g) n = 0) : ∀ i, i < n → f i = g i := fun i hi =>
  Classical.byContradiction (fun h2 => by
    have := xCnt_0.mp h i hi
    rw [xNe_t h2] at this
    cases this)
theorem xNe_i {n : Nat} {f g : xRow} (h : ∀ i, i < n → f i = g i) : xCnt (xNe f g) n = 0 := xCnt_0.mpr (fun i hi => xNe_f (h i hi))
theorem xTot_congr {f g : xRow} : ∀ {n : Nat}, (∀ i, i < n → f i = g i) → xTot f n = xTot g n
  | 0, _ => rfl
  | k + 1, h => by
    show xTot f k + f k = xTot g k + g k
    rw [xTot_congr (fun i hi => h i (by omega)), h k (by omega)]
theorem xMom_congr {f g : xRow} : ∀ {n : Nat}, (∀ i, i < n → f i = g i) → xMom f n = xMom g n
  | 0, _ => rfl
  | k + 1, h => by
    show xMom f k + f k * nI k = xMom g k + g k * nI k
    rw [xMom_congr (fun i hi => h i (by omega)), h k (by omega)]
theorem xCB_same {n : Nat} {f g : xRow} (h : ∀ i, i < n → f i = g i) : xCB n f g = true := xCB_2 (xTot_congr h) (by unfold xMm; rw [xMom_congr h])
theorem xHt_end {n : Nat} {f g : xRow} (h0 : 3 ≤ n) (hn : n ≤ 12) (hf : xBd f) (hg : xBd g) (hcb : xCB n f g = true) : xHt n f g n = 0 ∧ xFC n f g = 0 - xHt n f g (n - 1) - (f 0 - g 0) := by
  obtain ⟨hT, ho⟩ := (xCB_iff h0 hn hf hg).mp hcb
  obtain ⟨t1, t2⟩ := itm h0 hn (iO n (xZ f) (xZ g) (n - 1))
  have hc := t2 ho
  have hc0 := xFC_I h0 hn hf hg
  obtain ⟨c, ec⟩ : ∃ c, c = (-(iO n (xZ f) (xZ g) (n - 1))).tdiv n := ⟨_, rfl⟩
  rw [← ec] at hc hc0
  have hcb2 := iBd h0 hn (xZ f) (xZ g) c hc (xD_bd hf hg)
  obtain ⟨k1, k2⟩ := iKey h0 hn (xZ f) (xZ g) c hc
  have g0 := xHt_I (C := 2310000) hf hg hc0 hcb2 (by decide)
  have gn := g0 n hn
  have gm := g0 (n - 1) (by omega)
  have gb := xHt_J hf hg hc0 hcb2 (n - 1) (by omega)
  have f0 := hf 0 (by decide)
  have g00 := hg 0 (by decide)
  refine ⟨xI_ext (by rw [gn.1, k1]; rfl), xI_ext ?_⟩
  have e3 : (0 - xHt n f g (n - 1) - (f 0 - g 0)).toInt = 0 - iH c (xZ f) (xZ g) (n - 1) - (xZ f 0 - xZ g 0) := by
    show (0 - xHt n f g (n - 1) - (f 0 - g 0)).toInt = 0 - iH c (xZ f) (xZ g) (n - 1) - ((f 0).toInt - (g 0).toInt)
    exact xsubI (xsubI Int32.toInt_zero gm.1 (by omega) (by omega)) (xsubI rfl rfl (by omega) (by omega)) (by omega) (by omega)
  rw [e3, hc0]
  exact (k2.mpr hT).symm
/-- a target's numbers by the tips to it -/
theorem xLap {n : Nat} {f g : xRow} (h0 : 3 ≤ n) (hn : n ≤ 12) (hf : xBd f) (hg : xBd g) (hcb : xCB n f g = true) : ∀ i, i < n → g i = f i + (xHt n f g (xWr n ((i : Int) + 1)) - 2 * xHt n f g i + xHt n f g (xWr n ((i : Int) - 1))) := by
  obtain ⟨e1, e2⟩ := xHt_end h0 hn hf hg hcb
  intro i hi
  have hs : ∀ p : Nat, xHt n f g (p + 1) = xHt n f g p + xCl n f g (p + 1) := fun _ => rfl
  have hc : ∀ p : Nat, xCl n f g (p + 1) = xCl n f g p + if p = 0 then 0 else g p - f p := fun _ => rfl
  by_cases c0 : i = 0
  · subst c0
    have w1 : xWr n (((0 : Nat) : Int) + 1) = 1 := by unfold xWr; rw [if_neg (by omega), if_pos (by omega)]; omega
    have w2 : xWr n (((0 : Nat) : Int) - 1) = n - 1 := by unfold xWr; rw [if_pos (by omega)]; omega
    have h1 := hs 0
    have h2 := hc 0
    rw [if_pos rfl] at h2
    have h3 : xHt n f g 0 = 0 := rfl
    have h4 : xCl n f g 0 = xFC n f g := rfl
    rw [w1, w2, h1, h2, h3, h4, e2]
    grind
  · obtain ⟨p, rfl⟩ : ∃ p, i = p + 1 := ⟨i - 1, by omega⟩
    have w2 : xWr n (((p + 1 : Nat) : Int) - 1) = p := by unfold xWr; rw [if_neg (by omega), if_pos (by omega)]; omega
    have h1 := hs (p + 1)
    have h2 := hc (p + 1)
    have h3 := hs p
    rw [if_neg (by omega)] at h2
    by_cases c1 : p + 1 = n - 1
    · have w1 : xWr n (((p + 1 : Nat) : Int) + 1) = 0 := by unfold xWr; rw [if_neg (by omega), if_neg (by omega)]; omega
      rw [show p + 1 + 1 = n by omega] at h1
      have h5 : xHt n f g 0 = 0 := rfl
      rw [w1, w2, h5]
      rw [e1] at h1
      rw [show p + 1 + 1 = n by omega] at h2
      rw [h2] at h1
      rw [h3]
      rw [h3] at h1
      grind
    · have w1 : xWr n (((p + 1 : Nat) : Int) + 1) = p + 1 + 1 := by unfold xWr; rw [if_neg (by omega), if_pos (by omega)]; omega
      rw [w1, w2, h1, h2, h3]
      grind
/-! a ring tipped place by place -/
def xTps (n : Nat) (f h : xRow) : Nat → xRow
  | 0 => f
  | k + 1 => xTip n (xTps n f h k) k (h k)
def xDl (n p i : Nat) : Int32 := (if i = p then -2 else 0) + (if i = xWr n ((p : Int) + 1) then 1 else 0) + (if i = xWr n ((p : Int) - 1) then 1 else 0)
def xSg (n : Nat) (h : xRow) (i : Nat) : Nat → Int32
  | 0 => 0
  | k + 1 => xSg n h i k + h k * xDl n k i
theorem xAdd_at (f : xRow) (p : Nat) (x : Int32) (i : Nat) : xAdd f p x i = f i + (if i = p then x else 0) := by
  unfold xAdd upd
  by_cases e : i = p
  · rw [if_pos e, if_pos e, e]
  · rw [if_neg e, if_neg e, Int32.add_zero]
theorem xTip_at (n : Nat) (f : xRow) (p : Nat) (t : Int32) (i : Nat) : xTip n f p t i = f i + t * xDl n p i := by
  unfold xTip xDl
  rw [xAdd_at, xAdd_at, xAdd_at]
  split <;> split <;> split <;> grind
theorem xTps_at (n : Nat) (f h : xRow) (i : Nat) : ∀ k : Nat, xTps n f h k i = f i + xSg n h i k
  | 0 => by show f i = f i + 0; rw [Int32.add_zero]
  | k + 1 => by
    show xTip n (xTps n f h k) k (h k) i = f i + (xSg n h i k + h k * xDl n k i)
    rw [xTip_at, xTps_at n f h i k]
    grind
/-- of a sum over places with one weight each -/
def xS1 (h : xRow) (a : Nat) : Nat → Int32
  | 0 => 0
  | k + 1 => xS1 h a k + (if k = a then h k else 0)
theorem xS1_v (h : xRow) (a : Nat) : ∀ k : Nat, xS1 h a k = if a < k then h a else 0
  | 0 => by show (0 : Int32) = _; rw [if_neg (by omega)]
  | k + 1 => by
    show xS1 h a k + (if k = a then h k else 0) = _
    rw [xS1_v h a k]
    by_cases c : k = a
    · subst c
      rw [if_neg (by omega), if_pos rfl, if_pos (by omega), Int32.zero_add]
    · rw [if_neg c, Int32.add_zero]
      by_cases c2 : a < k
      · rw [if_pos c2, if_pos (by omega)]
      · rw [if_neg c2, if_neg (by omega)]
theorem xWr_inv {n p i : Nat} (h0 : 3 ≤ n) (hp : p < n) (hi : i < n) : (i = xWr n ((p : Int) + 1) ↔ p = xWr n ((i : Int) - 1)) ∧ (i = xWr n ((p : Int) - 1) ↔ p = xWr n ((i : Int) + 1)) := by
  unfold xWr
  refine ⟨?_, ?_⟩ <;> (repeat' split) <;> omega
theorem xSg_v {n i : Nat} {h : xRow} (h0 : 3 ≤ n) (hi : i < n) : ∀ k : Nat, k ≤ n → xSg n h i k = xS1 h (xWr n ((i : Int) + 1)) k - 2 * xS1 h i k + xS1 h (xWr n ((i : Int) - 1)) k
  | 0, _ => by show (0 : Int32) = 0 - 2 * 0 + 0; decide
  | k + 1, hk => by
    obtain ⟨a1, a2⟩ := xWr_inv h0 (show k < n by omega) hi
    show xSg n h i k + h k * xDl n k i = (xS1 h (xWr n ((i : Int) + 1)) k + (if k = xWr n ((i : Int) + 1) then h k else 0)) - 2 * (xS1 h i k + (if k = i then h k else 0)) + (xS1 h (xWr n ((i : Int) - 1)) k + (if k = xWr n ((i : Int) - 1) then h k else 0))
    rw [xSg_v h0 hi k (by omega)]
    have b1 : (if i = xWr n ((k : Int) + 1) then (1 : Int32) else 0) = if k = xWr n ((i : Int) - 1) then 1 else 0 := by simp only [a1]
    have b2 : (if i = xWr n ((k : Int) - 1) then (1 : Int32) else 0) = if k = xWr n ((i : Int) + 1) then 1 else 0 := by simp only [a2]
    have b3 : (if i = k then (-2 : Int32) else 0) = if k = i then -2 else 0 := by simp only [eq_comm]
    unfold xDl
    rw [b1, b2, b3]
    split <;> split <;> split <;> grind
theorem xTps_v {n i : Nat} {f h : xRow} (h0 : 3 ≤ n) (hn : n ≤ 12) (hi : i < n) : xTps n f h n i = f i + (h (xWr n ((i : Int) + 1)) - 2 * h i + h (xWr n ((i : Int) - 1))) := by
  have w1 : xWr n ((i : Int) + 1) < n := xWr_lt (by omega) (by omega) (by omega)
  have w2 : xWr n ((i : Int) - 1) < n := xWr_lt (by omega) (by omega) (by omega)
  rw [xTps_at, xSg_v h0 hi n (Nat.le_refl n), xS1_v, xS1_v, xS1_v, if_pos w1, if_pos hi, if_pos w2]
theorem xTps_g {n : Nat} {f g : xRow} (h0 : 3 ≤ n) (hn : n ≤ 12) (hf : xBd f) (hg : xBd g) (hcb : xCB n f g = true) : ∀ i, i < n → xTps n f (xHt n f g) n i = g i := fun i hi => by
  rw [xTps_v h0 hn hi, xLap h0 hn hf hg hcb i hi]
/-! the fewest tips -/
theorem iD_z {u : xRow} {x : Int} : ∀ k : Nat, 0 ≤ iD u x k ∧ (iD u x k = 0 → ∀ i, i < k → (u i).toInt = x)
  | 0 => ⟨Int.le_refl 0, fun _ i h => absurd h (Nat.not_lt_zero i)⟩
  | k + 1 => by
    obtain ⟨h1, h2⟩ := iD_z (u := u) (x := x) k
    have e : iD u x (k + 1) = iD u x k + (((u k).toInt - x).natAbs : Int) := rfl
    rw [e]
    refine ⟨by omega, fun h i hi => ?_⟩
    by_cases c : i = k
    · rw [c]; omega
    · exact h2 (by omega) i (by omega)
theorem xWay_0 {n : Nat} {f g : xRow} (h0 : 3 ≤ n) (hn : n ≤ 12) (hf : xBd f) (hg : xBd g) (hcb : xCB n f g = true) (h : xWay n f g = 0) : ∀ i, i < n → f i = g i := by
  have hb := xHt_bd h0 hn hf hg hcb
  unfold xWay xFw at h
  obtain ⟨j, hj, e⟩ := xLo_is (fun p => xAw (xHt n f g) (xHt n f g p) n) (n - 1)
  rw [e] at h
  have e2 := (xAw_D hn hb (hb j (by omega)) n (Nat.le_refl n)).1
  have e3 : xAw (xHt n f g) (xHt n f g j) n = 0 := h
  rw [e3] at e2
  have h3 := (iD_z (u := xHt n f g) (x := (xHt n f g j).toInt) n).2 e2.symm
  have h4 : ∀ i, i < n → xHt n f g i = 0 := fun i hi => by
    have a1 := h3 i hi
    have a2 := h3 0 (by omega)
    have a3 : xHt n f g 0 = 0 := rfl
    rw [a3] at a2
    exact xI_ext (by rw [a1, ← a2])
  intro i hi
  have w1 : xWr n ((i : Int) + 1) < n := xWr_lt (by omega) (by omega) (by omega)
  have w2 : xWr n ((i : Int) - 1) < n := xWr_lt (by omega) (by omega) (by omega)
  have h5 := xLap h0 hn hf hg hcb i hi
  rw [h4 i hi, h4 _ w1, h4 _ w2] at h5
  rw [h5]
  grind
theorem xOth_0 {n : Nat} {f g : xRow} : ∀ k : Nat, (∀ i, i ≤ k → f i = g i) → xOth n f g k = 0
  | 0, _ => rfl
  | k + 1, h => by
    show xOth n f g k + (g (k + 1) - f (k + 1)) * nI (n - (k + 1)) = 0
    rw [xOth_0 k (fun i hi => h i (by omega)), h (k + 1) (Nat.le_refl _)]
    grind
theorem xFC_0 {n : Nat} {f g : xRow} (h0 : 3 ≤ n) (hn : n ≤ 12) (h : ∀ i, i < n → f i = g i) : xFC n f g = 0 := by
  unfold xFC
  rw [xOth_0 (n - 1) (fun i hi => h i (by omega))]
  apply xI_ext
  rw [show (-(0 : Int32)) = 0 by decide, xdivI (a := 0) (b := n) Int32.toInt_zero (nI_toInt (n := n) (by omega)) (by omega), Int32.toInt_zero]
  exact Int.zero_tdiv _
theorem xCl_0 {n : Nat} {f g : xRow} (h0 : 3 ≤ n) (hn : n ≤ 12) (h : ∀ i, i < n → f i = g i) : ∀ p, p ≤ n → xCl n f g p = 0
  | 0, _ => xFC_0 h0 hn h
  | p + 1, hp => by
    show xCl n f g p + (if p = 0 then 0 else g p - f p) = 0
    rw [xCl_0 h0 hn h p (by omega), h p (by omega)]
    split <;> grind
theorem xHt_0 {n : Nat} {f g : xRow} (h0 : 3 ≤ n) (hn : n ≤ 12) (h : ∀ i, i < n → f i = g i) : ∀ p, p < n → xHt n f g p = 0
  | 0, _ => rfl
  | p + 1, hp => by
    show xHt n f g p + xCl n f g (p + 1) = 0
    rw [xHt_0 h0 hn h p (by omega), xCl_0 h0 hn h (p + 1) (by omega)]
    rfl
theorem xFew_0 {n : Nat} {f g : xRow} (h0 : 3 ≤ n) (hn : n ≤ 12) (hf : xBd f) (hg : xBd g) : xFew n f g = 0 ↔ xCnt (xNe f g) n = 0 := by
  constructor
  · intro h
    unfold xFew at h
    by_cases c : xCB n f g = true
    · rw [if_pos c] at h
      exact xNe_i (xWay_0 h0 hn hf hg c h)
    · rw [if_neg c] at h
      exact absurd h (by decide)
  · intro h
    have e := xNe_0 h
    have c := xCB_same e
    unfold xFew
    rw [if_pos c]
    have hz := xHt_0 h0 hn e
    have hb := xHt_bd h0 hn hf hg c
    have w := xWay_I h0 hn hf hg c
    have h1 := xLo_le (fun p => xAw (xHt n f g) (xHt n f g p) n) (n - 1) 0 (by omega)
    have h2 := (xAw_D hn hb (hb 0 (by omega)) n (Nat.le_refl n)).1
    have h3 : ∀ k, k ≤ n → iD (xHt n f g) (xHt n f g 0).toInt k = 0 := by
      intro k
      induction k with
      | zero => exact fun _ => rfl
      | succ k ih =>
        intro hk
        show iD _ _ k + (((xHt n f g k).toInt - (xHt n f g 0).toInt).natAbs : Int) = 0
        rw [ih (by omega), hz k (by omega), hz 0 (by omega)]
        rfl
    rw [h3 n (Nat.le_refl n)] at h2
    apply xI_ext
    have h4 : (xWay n f g).toInt ≤ (xAw (xHt n f g) (xHt n f g 0) n).toInt := h1
    rw [Int32.toInt_zero]
    omega
theorem xFew_lt {n : Nat} {f g : xRow} (h0 : 3 ≤ n) (hn : n ≤ 12) (hf : xBd f) (hg : xBd g) : (xCB n f g = true ∧ 0 ≤ xFew n f g) ∨ (xCB n f g = false ∧ xFew n f g < 0) := by
  by_cases c : xCB n f g = true
  · refine Or.inl ⟨c, ?_⟩
    unfold xFew
    rw [if_pos c, Int32.le_iff_toInt_le, Int32.toInt_zero]
    exact (xWay_I h0 hn hf hg c).1
  · refine Or.inr ⟨by simpa using c, ?_⟩
    unfold xFew
    rw [if_neg c]
    decide
theorem xNear_spec (F : Nat → Int32) : ∀ k : Nat, k ≤ 6 → ((∀ t, t < k → ¬ 0 ≤ F t) ∧ xNear F k = (-1, -1)) ∨ ∃ j, j < k ∧ xNear F k = (nI j, F j) ∧ 0 ≤ F j ∧ ∀ t, t < k → 0 ≤ F t → ¬ F t < F j ∧ (F j = F t → j ≤ t)
  | 0, _ => Or.inl ⟨fun t h => absurd h (Nat.not_lt_zero t), rfl⟩
  | k + 1, hk => by
    rcases xNear_spec F k (by omega) with ⟨h1, h2⟩ | ⟨j, hj, h2, h3, h4⟩
    · by_cases c : 0 ≤ F k
      · refine Or.inr ⟨k, Nat.lt_succ_self k, xNear_t ⟨c, Or.inl (by rw [h2]; decide)⟩, c, fun t ht hF => ?_⟩
        have e : t = k := Classical.byContradiction (fun h => h1 t (by omega) hF)
        rw [e]
        exact ⟨Int32.lt_irrefl, fun _ => Nat.le_refl k⟩
      · refine Or.inl ⟨fun t ht => ?_, by rw [xNear_f (fun h => c h.1), h2]⟩
        by_cases e : t = k
        · rw [e]; exact c
        · exact h1 t (by omega)
    · by_cases c : 0 ≤ F k ∧ F k < F j
      · refine Or.inr ⟨k, Nat.lt_succ_self k, xNear_t ⟨c.1, Or.inr (by rw [h2]; exact c.2)⟩, c.1, fun t ht hF => ?_⟩
        by_cases e : t = k
        · rw [e]; exact ⟨Int32.lt_irrefl, fun _ => Nat.le_refl k⟩
        · have h5 := h4 t (by omega) hF
          have c2 := c.2
          rw [Int32.lt_iff_toInt_lt] at c2
          have h6 := h5.1
          rw [Int32.lt_iff_toInt_lt] at h6
          refine ⟨by rw [Int32.lt_iff_toInt_lt]; omega, fun h => ?_⟩
          rw [h] at c2
          omega
      · refine Or.inr ⟨j, by omega, ?_, h3, fun t ht hF => ?_⟩
        · rw [xNear_f, h2]
          intro h
          rw [h2] at h
          rcases h.2 with h5 | h5
          · exact nI_pos (n := j) (by omega) h5
          · exact c ⟨h.1, h5⟩
        · by_cases e : t = k
          · rw [e]
            rw [e] at hF
            exact ⟨fun h => c ⟨hF, h⟩, fun _ => by omega⟩
          · exact h4 t (by omega) hF
/-! the best place -/
theorem xBp_spec (n : Nat) (f : xRow) : ∀ k : Nat, k ≤ 12 → (xBp n f k = (-1, xSpn n f) ∧ ∀ i, i < k → ¬ xSp2 n f i < xSpn n f) ∨ ∃ j, j < k ∧ xBp n f k = (nI j, xSp2 n f j) ∧ xSp2 n f j < xSpn n f ∧ ∀ i, i < k → ¬ xSp2 n f i < xSp2 n f j
  | 0, _ => Or.inl ⟨rfl, fun i h => absurd h (Nat.not_lt_zero i)⟩
  | k + 1, hk => by
    rcases xBp_spec n f k (by omega) with ⟨h1, h2⟩ | ⟨j, hj, h1, h2, h3⟩
    · by_cases c : xSp2 n f k < xSpn n f
      · refine Or.inr ⟨k, Nat.lt_succ_self k, xBp_t2 (by rw [h1]; exact c), c, fun i hi => ?_⟩
        by_cases e : i = k
        · rw [e]; exact Int32.lt_irrefl
        · have h4 := h2 i (by omega)
          rw [Int32.lt_iff_toInt_lt] at c h4 ⊢
          omega
      · refine Or.inl ⟨by rw [xBp_f2 (by rw [h1]; exact c), h1], fun i hi => ?_⟩
        by_cases e : i = k
        · rw [e]; exact c
        · exact h2 i (by omega)
    · by_cases c : xSp2 n f k < xSp2 n f j
      · refine Or.inr ⟨k, Nat.lt_succ_self k, xBp_t2 (by rw [h1]; exact c), ?_, fun i hi => ?_⟩
        · rw [Int32.lt_iff_toInt_lt] at c h2 ⊢
          omega
        · by_cases e : i = k
          · rw [e]; exact Int32.lt_irrefl
          · have h4 := h3 i (by omega)
            rw [Int32.lt_iff_toInt_lt] at c h4 ⊢
            omega
      · refine Or.inr ⟨j, by omega, by rw [xBp_f2 (by rw [h1]; exact c), h1], h2, fun i hi => ?_⟩
        by_cases e : i = k
        · rw [e]; exact c
        · exact h3 i (by omega)
theorem xSp2_le (n : Nat) (f : xRow) (k : Nat) : (xSp2 n f k).toInt ≤ (xSpn n (xTip n f k 1)).toInt ∧ (xSp2 n f k).toInt ≤ (xSpn n (xTip n f k (-1))).toInt := by
  unfold xSp2
  by_cases c : xSpn n (xTip n f k (-1)) < xSpn n (xTip n f k 1)
  · rw [if_pos c]
    rw [Int32.lt_iff_toInt_lt] at c
    omega
  · rw [if_neg c]
    rw [Int32.lt_iff_toInt_lt] at c
    omega
theorem xTip_0 (n : Nat) (f : xRow) (p : Nat) : xTip n f p 0 = f := by
  funext i
  rw [xTip_at]
  grind
/-! settling, step by step -/
theorem xStl_add (n : Nat) : ∀ (a b : Nat) (f : xRow), xStl n (a + b) f = ((xStl n a f).1 + (xStl n b (xStl n a f).2).1, (xStl n b (xStl n a f).2).2)
  | 0, b, f => by rw [Nat.zero_add]; exact Prod.ext (Nat.zero_add _).symm rfl
  | a + 1, b, f => by
    rw [show a + 1 + b = (a + b) + 1 by omega]
    by_cases c : xFirst (xSt n f) n < n
    · rw [xStl_t (a + b) c, xStl_t a c, xStl_add n a b]
      exact Prod.ext (by dsimp only; omega) rfl
    · rw [xStl_f (a + b) c, xStl_f a c, xStl_0 c b]
      rfl
/-- at rest -/
def xQu (n : Nat) (f : xRow) : Prop := ¬ xFirst (xSt n f) n < n
theorem xStl_q {n : Nat} : ∀ (a : Nat) (f : xRow), (xStl n a f).1 < a → xQu n (xStl n a f).2
  | 0, _, h => absurd h (Nat.not_lt_zero _)
  | a + 1, f, h => by
    by_cases c : xFirst (xSt n f) n < n
    · rw [xStl_t a c] at h ⊢
      exact xStl_q a _ (by dsimp only at h; omega)
    · rw [xStl_f a c]
      exact c
theorem xQu_fi {n : Nat} {f : xRow} (hn : n ≤ 12) : xQu n f ↔ ¬ 0 ≤ xFi (xSt n f) n := by
  unfold xQu
  constructor
  · intro h h2
    exact h (xFi_ge (n := n) (P := xSt n f) (by omega) h2).1
  · intro h h2
    exact h (by unfold xFi; rw [if_pos h2]; exact nI_pos' (by omega))
theorem xRs_q {n : Nat} {f : xRow} (hn : n ≤ 12) : (xQu n (xStl n 300 f).2 ∧ xRs n f = nI (xStl n 300 f).1 ∧ xSr n f = xSpn n (xStl n 300 f).2) ∨ (¬ xQu n (xStl n 300 f).2 ∧ xRs n f = -1 ∧ xSr n f = -1) := by
  by_cases c : xQu n (xStl n 300 f).2
  · have h1 : xRs n f = nI (xStl n 300 f).1 := xRs_f ((xQu_fi hn).mp c)
    refine Or.inl ⟨c, h1, ?_⟩
    unfold xSr
    rw [h1, if_pos (nI_pos' (by have := xStl_le n 300 f; omega))]
  · have h1 : xRs n f = -1 := xRs_t (Classical.byContradiction (fun h => c ((xQu_fi hn).mpr h)))
    refine Or.inr ⟨c, h1, ?_⟩
    unfold xSr
    rw [h1, if_neg (by decide)]
/-- what settling k steps does to the steps that are left -/
theorem xStl_rest {n k : Nat} {f : xRow} (hk : k ≤ 300) (h : xQu n (xStl n 300 f).2) : xStl n 300 (xStl n k f).2 = ((xStl n 300 f).1 - (xStl n k f).1, (xStl n 300 f).2) ∧ (xStl n k f).1 ≤ (xStl n 300 f).1 := by
  have e := xStl_add n k (300 - k) f
  rw [show k + (300 - k) = 300 by omega] at e
  have e2 := xStl_add n (300 - k) k (xStl n k f).2
  rw [show 300 - k + k = 300 by omega] at e2
  rw [e] at h
  have e3 : xStl n k (xStl n (300 - k) (xStl n k f).2).2 = (0, (xStl n (300 - k) (xStl n k f).2).2) := xStl_0 h k
  rw [e3] at e2
  rw [e2, e]
  refine ⟨Prod.ext ?_ rfl, ?_⟩
  · dsimp only
    omega
  · dsimp only
    omega
theorem xStl_min {n k : Nat} {f : xRow} (hk : k ≤ 300) (h : xQu n (xStl n 300 f).2) : ((xStl n k f).1 = if (xStl n 300 f).1 < k then (xStl n 300 f).1 else k) ∧ ((xStl n 300 f).1 ≤ k → (xStl n k f).2 = (xStl n 300 f).2) := by
  obtain ⟨h1, h2⟩ := xStl_rest hk h
  have h3 := xStl_le n k f
  have e := xStl_add n k (300 - k) f
  rw [show k + (300 - k) = 300 by omega] at e
  by_cases c : (xStl n k f).1 < k
  · have hq := xStl_q k f c
    rw [xStl_0 hq (300 - k)] at e
    have e1 := congrArg Prod.fst e
    have e2 := congrArg Prod.snd e
    dsimp only at e1 e2
    refine ⟨?_, fun _ => e2.symm⟩
    rw [if_pos (by omega)]
    omega
  · refine ⟨?_, fun h4 => ?_⟩
    · rw [if_neg (by omega)]
      omega
    · have e1 := congrArg Prod.fst e
      have e2 := congrArg Prod.snd e
      dsimp only at e1 e2
      have h5 : (xStl n (300 - k) (xStl n k f).2).1 = 0 := by omega
      have h6 : xStl n (300 - k) (xStl n k f).2 = (0, (xStl n k f).2) := by
        rcases Nat.eq_zero_or_pos (300 - k) with h7 | h7
        · rw [h7]; rfl
        · have hq : xQu n (xStl n k f).2 := by
            intro hc
            obtain ⟨j, hj⟩ : ∃ j, 300 - k = j + 1 := ⟨300 - k - 1, by omega⟩
            rw [hj, xStl_t j hc] at h5
            exact absurd h5 (Nat.succ_ne_zero _)
          exact xStl_0 hq _
      rw [e2, h6]
theorem xStl_no {n k : Nat} {f : xRow} (hk : k ≤ 300) (h : ¬ xQu n (xStl n 300 f).2) : (xStl n k f).1 = k := by
  have h3 := xStl_le n k f
  apply Classical.byContradiction
  intro c
  have hq := xStl_q (n := n) k f (by omega)
  have e := xStl_add n k (300 - k) f
  rw [show k + (300 - k) = 300 by omega, xStl_0 hq (300 - k)] at e
  apply h
  rw [e]
  exact hq
/-! what tipping leaves -/
theorem xTot_add {f : xRow} {p : Nat} {x : Int32} : ∀ {n : Nat}, xTot (xAdd f p x) n = xTot f n + if p < n then x else 0
  | 0 => by show (0 : Int32) = 0 + _; rw [if_neg (by omega)]; rfl
  | k + 1 => by
    show xTot (xAdd f p x) k + xAdd f p x k = xTot f k + f k + _
    rw [xTot_add (n := k), xAdd_at]
    by_cases c : k = p
    · subst c
      rw [if_neg (by omega), if_pos rfl, if_pos (by omega)]
      grind
    · rw [if_neg c]
      by_cases c2 : p < k
      · rw [if_pos c2, if_pos (by omega)]
        grind
      · rw [if_neg c2, if_neg (by omega)]
        grind
theorem xTot_tip {n p : Nat} {f : xRow} {t : Int32} (h0 : 3 ≤ n) (hp : p < n) : xTot (xTip n f p t) n = xTot f n := by
  obtain ⟨w1, w2, w3, w4, w5⟩ := xWr_3 h0 hp
  unfold xTip
  rw [xTot_add, xTot_add, xTot_add, if_pos hp, if_pos w1, if_pos w2]
  grind
def iU (F : Nat → Int) (p : Nat) (x : Int) : Nat → Int := fun i => F i + if i = p then x else 0
theorem iM_U {F : Nat → Int} {p : Nat} {x : Int} : ∀ {n : Nat}, iM (iU F p x) n = iM F n + if p < n then x * p else 0
  | 0 => by show (0 : Int) = 0 + _; rw [if_neg (by omega)]; rfl
  | k + 1 => by
    show iM (iU F p x) k + iU F p x k * k = iM F k + F k * k + _
    rw [iM_U (n := k)]
    unfold iU
    by_cases c : k = p
    · subst c
      rw [if_neg (by omega), if_pos rfl, if_pos (by omega), Int.add_mul]
      omega
    · rw [if_neg c]
      by_cases c2 : p < k
      · rw [if_pos c2, if_pos (by omega), Int.add_zero]
        omega
      · rw [if_neg c2, if_neg (by omega)]
        simp only [Int.add_zero]
theorem iM_congr {F G : Nat → Int} : ∀ {n : Nat}, (∀ i, i < n → F i = G i) → iM F n = iM G n
  | 0, _ => rfl
  | k + 1, h => by
    show iM F k + F k * k = iM G k + G k * k
    rw [iM_congr (fun i hi => h i (by omega)), h k (by omega)]
theorem xMm_tip {B T : Int} {n p : Nat} {f : xRow} {t : Int32} (h : xOkR B n f) (h0 : 3 ≤ n) (hn : n ≤ 12) (hp : p < n) (ht : -T ≤ t.toInt ∧ t.toInt ≤ T) (hB : 0 ≤ B ∧ B + 2 * T ≤ 200000) (hT : 0 ≤ T ∧ T ≤ 1000) : xMm n (xTip n f p t) = xMm n f := by
  have h2 := h.tip h0 hn hp ht ⟨hB.1, by omega⟩ hT
  have hf := h.bd (by omega)
  have hg := h2.bd (by omega)
  rw [xMm_iff h0 hn hg hf]
  obtain ⟨w1, w2, w3, w4, w5⟩ := xWr_3 h0 hp
  obtain ⟨a, ea⟩ : ∃ a, a = xWr n ((p : Int) + 1) := ⟨_, rfl⟩
  obtain ⟨b, eb⟩ : ∃ b, b = xWr n ((p : Int) - 1) := ⟨_, rfl⟩
  have e2 : ((-2) * t).toInt = -2 * t.toInt := xmulI (by decide) rfl (by omega) (by omega)
  have key : ∀ i, i < n → xZ (xTip n f p t) i = iU (iU (iU (xZ f) p (-2 * t.toInt)) a t.toInt) b t.toInt i := by
    intro i hi
    have hfi := h.1 i (by omega)
    show (xTip n f p t i).toInt = (f i).toInt + (if i = p then -2 * t.toInt else 0) + (if i = a then t.toInt else 0) + (if i = b then t.toInt else 0)
    unfold xTip
    rw [← ea, ← eb, xAdd_at, xAdd_at, xAdd_at]
    rw [← ea] at w3 w5
    rw [← eb] at w4 w5
    by_cases c1 : i = p
    · have n1 : ¬ i = a := fun e => w3 (by rw [← e, c1])
      have n2 : ¬ i = b := fun e => w4 (by rw [← e, c1])
      rw [if_pos c1, if_neg n1, if_neg n2, if_pos c1, if_neg n1, if_neg n2, Int32.add_zero, Int32.add_zero, xaddI rfl e2 (by omega) (by omega)]
      omega
    · rw [if_neg c1, if_neg c1, Int32.add_zero]
      by_cases c2 : i = a
      · have n2 : ¬ i = b := fun e => w5 (by rw [← c2, ← e])
        rw [if_pos c2, if_pos c2, if_neg n2, if_neg n2, Int32.add_zero, xaddI rfl rfl (by omega) (by omega)]
        omega
      · rw [if_neg c2, if_neg c2, Int32.add_zero]
        by_cases c3 : i = b
        · rw [if_pos c3, if_pos c3, xaddI rfl rfl (by omega) (by omega)]
          omega
        · rw [if_neg c3, if_neg c3, Int32.add_zero]
          omega
  rw [iM_congr key, iM_U, iM_U, iM_U]
  rw [if_pos hp, if_pos (show a < n by rw [ea]; exact w1), if_pos (show b < n by rw [eb]; exact w2)]
  have hab : ((a : Int) + b - 2 * p = 0) ∨ ((a : Int) + b - 2 * p = n) ∨ ((a : Int) + b - 2 * p = -(n : Int)) := by
    rw [ea, eb]
    unfold xWr
    (repeat' split) <;> omega
  have e3 : iM (xZ f) n + -2 * t.toInt * (p : Int) + t.toInt * (a : Int) + t.toInt * (b : Int) = iM (xZ f) n + t.toInt * ((a : Int) + b - 2 * p) := by
    rw [Int.mul_sub, Int.mul_add, Int.mul_left_comm, Int.mul_assoc]
    omega
  rw [e3]
  rcases hab with h9 | h9 | h9
  · rw [h9, Int.mul_zero, Int.add_zero]
  · rw [h9, Int.add_mul_emod_self_right]
  · rw [h9, Int.mul_neg, ← Int.neg_mul, Int.add_mul_emod_self_right]
theorem xTM_stl {n : Nat} (h0 : 3 ≤ n) (hn : n ≤ 12) : ∀ (k : Nat) (B : Int) (f : xRow), xOkR B n f → 0 ≤ B → B + 2 * (k : Int) ≤ 200000 → xTot (xStl n k f).2 n = xTot f n ∧ xMm n (xStl n k f).2 = xMm n f
  | 0, _, _, _, _, _ => ⟨rfl, rfl⟩
  | k + 1, B, f, h, hB, hk => by
    by_cases c : xFirst (xSt n f) n < n
    · rw [xStl_t k c]
      have h2 := h.tip (T := 1) (t := 1) h0 hn c (by decide) ⟨hB, by omega⟩ (by decide)
      obtain ⟨a1, a2⟩ := xTM_stl h0 hn k (B + 2 * 1) _ h2 (by omega) (by omega)
      exact ⟨a1.trans (xTot_tip h0 c), a2.trans (xMm_tip (T := 1) h h0 hn c (by decide) ⟨hB, by omega⟩ (by decide))⟩
    · rw [xStl_f k c]
      exact ⟨rfl, rfl⟩
theorem xCB_keep {n : Nat} {f f2 g : xRow} (h1 : xTot f2 n = xTot f n) (h2 : xMm n f2 = xMm n f) : xCB n f2 g = xCB n f g := by
  unfold xCB
  rw [h1, h2]
/-! as by hand, from the last place down -/
/-- the count of the places from k to n - 1 -/
def xCn (P : Nat → Bool) (n : Nat) : Nat → Nat
  | 0 => 0
  | j + 1 => xCn P n j + if P (n - 1 - j) then 1 else 0
theorem xCnt_split {P : Nat → Bool} {n : Nat} : ∀ j : Nat, j ≤ n → xCnt P (n - j) + xCn P n j = xCnt P n
  | 0, _ => rfl
  | j + 1, h => by
    have ih := xCnt_split (P := P) (n := n) j (by omega)
    have e : n - j = (n - (j + 1)) + 1 := by omega
    rw [e] at ih
    have e2 : xCnt P ((n - (j + 1)) + 1) = xCnt P (n - (j + 1)) + if P (n - (j + 1)) then 1 else 0 := rfl
    have e3 : xCn P n (j + 1) = xCn P n j + if P (n - 1 - j) then 1 else 0 := rfl
    rw [e2] at ih
    rw [e3, show n - 1 - j = n - (j + 1) by omega]
    omega
theorem xCn_all {P : Nat → Bool} {n : Nat} : xCn P n n = xCnt P n := by
  have h := xCnt_split (P := P) (n := n) n (Nat.le_refl n)
  rw [Nat.sub_self] at h
  have e : xCnt P 0 = 0 := rfl
  omega
/-- the place of the least (R) among those from n - j on, the first of several; as long as none was looked at: the last -/
def xDn (R : Nat → Nat → Bool) (n : Nat) : Nat → Nat
  | 0 => n - 1
  | j + 1 => if R (n - 1 - j) (xDn R n j) then n - 1 - j else xDn R n j
theorem xDn_lt {R : Nat → Nat → Bool} {n : Nat} (h0 : 0 < n) : ∀ j, j ≤ n → xDn R n j < n ∧ (n - j ≤ xDn R n j ∨ j = 0)
  | 0, _ => ⟨by show n - 1 < n; omega, Or.inr rfl⟩
  | j + 1, h => by
    obtain ⟨h1, h2⟩ := xDn_lt (R := R) h0 j (by omega)
    show (if R (n - 1 - j) (xDn R n j) then n - 1 - j else xDn R n j) < n ∧ (n - (j + 1) ≤ (if R (n - 1 - j) (xDn R n j) then n - 1 - j else xDn R n j) ∨ _)
    split
    · exact ⟨by omega, Or.inl (by omega)⟩
    · refine ⟨h1, Or.inl ?_⟩
      rcases h2 with h2 | h2
      · omega
      · subst h2
        show n - 1 ≤ n - 1
        exact Nat.le_refl _
theorem xDn_min {V : Nat → Int} {n : Nat} (h0 : 0 < n) : ∀ j, 1 ≤ j → j ≤ n → ∀ i, n - j ≤ i → i < n → V (xDn (fun a b => decide (V a ≤ V b)) n j) ≤ V i ∧ (V (xDn (fun a b => decide (V a ≤ V b)) n j) = V i → xDn (fun a b => decide (V a ≤ V b)) n j ≤ i)
  | 0, h, _, _, _, _ => absurd h (by decide)
  | 1, _, h, i, h1, h2 => by
    have e : xDn (fun a b => decide (V a ≤ V b)) n 1 = n - 1 := by
      show (if decide (V (n - 1 - 0) ≤ V (n - 1)) = true then n - 1 - 0 else n - 1) = n - 1
      split <;> rfl
    rw [e, show i = n - 1 by omega]
    exact ⟨Int.le_refl _, fun _ => Nat.le_refl _⟩
  | j + 2, _, h, i, h1, h2 => by
    have ih := fun i h1 h2 => xDn_min (V := V) h0 (j + 1) (by omega) (by omega) i h1 h2
    have hl := (xDn_lt (R := fun a b => decide (V a ≤ V b)) h0 (j + 1) (by omega))
    obtain ⟨b, eb⟩ : ∃ b, b = xDn (fun a b => decide (V a ≤ V b)) n (j + 1) := ⟨_, rfl⟩
    have e : xDn (fun a b => decide (V a ≤ V b)) n (j + 2) = if decide (V (n - 1 - (j + 1)) ≤ V b) = true then n - 1 - (j + 1) else b := by rw [eb]; rfl
    rw [← eb] at ih hl
    rw [e]
    by_cases c : V (n - 1 - (j + 1)) ≤ V b
    · rw [if_pos (decide_eq_true c)]
      by_cases ei : i = n - 1 - (j + 1)
      · rw [ei]
        exact ⟨Int.le_refl _, fun _ => Nat.le_refl _⟩
      · have := ih i (by omega) h2
        exact ⟨by omega, fun _ => by omega⟩
    · rw [if_neg (by simpa using c)]
      by_cases ei : i = n - 1 - (j + 1)
      · rw [ei]
        exact ⟨by omega, fun h => by omega⟩
      · exact ih i (by omega) h2
theorem xArg {V : Nat → Int} {n a b : Nat} (ha : a < n) (hb : b < n) (h1 : ∀ i, i < n → V a ≤ V i ∧ (V a = V i → a ≤ i)) (h2 : ∀ i, i < n → V b ≤ V i ∧ (V b = V i → b ≤ i)) : a = b := by
  have p1 := h1 b hb
  have p2 := h2 a ha
  have e : V a = V b := by omega
  have := p1.2 e
  have := p2.2 e.symm
  omega
theorem xBa_first (G : Nat → Int32) : ∀ k i, i ≤ k → xAbs (G (xBa G k)) = xAbs (G i) → xBa G k ≤ i
  | 0, i, _, _ => Nat.zero_le i
  | k + 1, i, h, e => by
    have e0 : xBa G (k + 1) = if xAbs (G (k + 1)) < xAbs (G (xBa G k)) then k + 1 else xBa G k := rfl
    rw [e0] at e ⊢
    by_cases c : xAbs (G (k + 1)) < xAbs (G (xBa G k))
    · rw [if_pos c] at e ⊢
      by_cases ei : i = k + 1
      · omega
      · have := xBa_min G k i (by omega)
        rw [Int32.lt_iff_toInt_lt, e] at c
        omega
    · rw [if_neg c] at e ⊢
      by_cases ei : i = k + 1
      · have := xBa_le G k
        omega
      · exact xBa_first G k i (by omega) e
theorem xBest_dn {n : Nat} {f : xRow} (h0 : 3 ≤ n) : xDn (fun a b => decide ((xAbs (xTlt n f a)).toInt ≤ (xAbs (xTlt n f b)).toInt)) n n = xBa (xTlt n f) (n - 1) := by
  refine xArg (V := fun a => (xAbs (xTlt n f a)).toInt) (n := n) (xDn_lt (by omega) n (Nat.le_refl n)).1 (by have := xBa_le (xTlt n f) (n - 1); omega) (fun i hi => xDn_min (V := fun a => (xAbs (xTlt n f a)).toInt) (by omega) n (by omega) (Nat.le_refl n) i (by omega) hi) (fun i hi => ⟨xBa_min (xTlt n f) (n - 1) i (by omega), fun e => xBa_first (xTlt n f) (n - 1) i (by omega) (xI_ext e)⟩)
theorem xTop_first (f : xRow) : ∀ k i, i ≤ k → f (xTopI f k) = f i → xTopI f k ≤ i
  | 0, i, _, _ => Nat.zero_le i
  | k + 1, i, h, e => by
    have e0 : xTopI f (k + 1) = if f (xTopI f k) < f (k + 1) then k + 1 else xTopI f k := rfl
    rw [e0] at e ⊢
    by_cases c : f (xTopI f k) < f (k + 1)
    · rw [if_pos c] at e ⊢
      by_cases ei : i = k + 1
      · omega
      · have := xHi_ge f k i (by omega)
        rw [← xTop_hi] at this
        rw [Int32.lt_iff_toInt_lt, e] at c
        omega
    · rw [if_neg c] at e ⊢
      by_cases ei : i = k + 1
      · have := xTopI_le f k
        omega
      · exact xTop_first f k i (by omega) e
theorem xHigh_dn {n : Nat} {f : xRow} (h0 : 3 ≤ n) : xDn (fun a b => decide (-(f a).toInt ≤ -(f b).toInt)) n n = xTopI f (n - 1) := by
  refine xArg (V := fun a => -(f a).toInt) (n := n) (xDn_lt (by omega) n (Nat.le_refl n)).1 (by have := xTopI_le f (n - 1); omega) (fun i hi => xDn_min (V := fun a => -(f a).toInt) (by omega) n (by omega) (Nat.le_refl n) i (by omega) hi) (fun i hi => ⟨?_, fun e => xTop_first f (n - 1) i (by omega) (xI_ext (by omega))⟩)
  have := xHi_ge f (n - 1) i (by omega)
  rw [← xTop_hi] at this
  omega

/-! plain facts of Int32 (the first six are the kit's family of COUNTS) -/
theorem fb_rng (x : Int32) : -2147483648 ≤ x.toInt ∧ x.toInt < 2147483648 := by
  have h1 := Int32.le_toInt x
  have h2 := Int32.toInt_lt x
  omega
theorem fb_bmod {z : Int} (h1 : -2147483648 ≤ z) (h2 : z < 2147483648) : z.bmod (2 ^ 32) = z := by
  rw [Int.bmod_eq_of_le (by omega) (by omega)]
theorem xaddI {x y : Int32} {a b : Int} (hx : x.toInt = a) (hy : y.toInt = b) (h1 : -2147483648 ≤ a + b) (h2 : a + b < 2147483648) : (x + y).toInt = a + b := by
  rw [Int32.toInt_add, hx, hy, fb_bmod h1 h2]
theorem xsubI {x y : Int32} {a b : Int} (hx : x.toInt = a) (hy : y.toInt = b) (h1 : -2147483648 ≤ a - b) (h2 : a - b < 2147483648) : (x - y).toInt = a - b := by
  rw [Int32.toInt_sub, hx, hy, fb_bmod h1 h2]
theorem xmulI {x y : Int32} {a b : Int} (hx : x.toInt = a) (hy : y.toInt = b) (h1 : -2147483648 ≤ a * b) (h2 : a * b < 2147483648) : (x * y).toInt = a * b := by
  rw [Int32.toInt_mul, hx, hy, fb_bmod h1 h2]
theorem xnegI {x : Int32} {a : Int} (hx : x.toInt = a) (h1 : -2147483648 < a) (h2 : a < 2147483648) : (-x).toInt = -a := by
  rw [Int32.toInt_neg, hx, fb_bmod (by omega) (by omega)]
theorem xI_ext {x y : Int32} (h : x.toInt = y.toInt) : x = y := Int32.toInt_inj.mp h
theorem xofI {z : Int} (h1 : -2147483648 ≤ z) (h2 : z < 2147483648) : (Int32.ofInt z).toInt = z := by
  rw [Int32.toInt_ofInt]
  exact fb_bmod h1 h2
theorem xtd {a b : Int} (hb : 0 < b) : (0 ≤ a → 0 ≤ a.tdiv b ∧ a.tdiv b * b ≤ a ∧ a.tdiv b ≤ a ∧ 0 ≤ a.tdiv b * b) ∧ (a ≤ 0 → a.tdiv b ≤ 0 ∧ a ≤ a.tdiv b * b ∧ a ≤ a.tdiv b ∧ a.tdiv b * b ≤ 0) := by
  have key : ∀ c : Int, 0 ≤ c → 0 ≤ c.tdiv b ∧ c.tdiv b * b ≤ c ∧ c.tdiv b ≤ c ∧ 0 ≤ c.tdiv b * b := by
    intro c h
    rw [Int.tdiv_eq_ediv_of_nonneg h]
    exact ⟨Int.ediv_nonneg h (by omega), Int.ediv_mul_le c (by omega), Int.ediv_le_self b h, Int.mul_nonneg (Int.ediv_nonneg h (by omega)) (by omega)⟩
  refine ⟨key a, fun h => ?_⟩
  have e : a.tdiv b = -((-a).tdiv b) := by rw [Int.neg_tdiv, Int.neg_neg]
  obtain ⟨h1, h2, h3, h4⟩ := key (-a) (by omega)
  rw [e, Int.neg_mul]
  omega
theorem xdivI {x y : Int32} {a b : Int} (hx : x.toInt = a) (hy : y.toInt = b) (hb : 0 < b) : (x / y).toInt = a.tdiv b := by
  have r := fb_rng x
  rw [hx] at r
  rw [Int32.toInt_div, hx, hy]
  obtain ⟨h1, h2⟩ := xtd (a := a) hb
  rcases Int.le_total 0 a with h | h
  · have := h1 h
    exact fb_bmod (by omega) (by omega)
  · have := h2 h
    exact fb_bmod (by omega) (by omega)
theorem xremI {x y : Int32} {a b : Int} (hx : x.toInt = a) (hy : y.toInt = b) (hb : 0 < b) : (x - x / y * y).toInt = a - a.tdiv b * b := by
  have r := fb_rng x
  rw [hx] at r
  obtain ⟨h1, h2⟩ := xtd (a := a) hb
  have hd := xdivI hx hy hb
  rcases Int.le_total 0 a with h | h
  · have := h1 h
    exact xsubI hx (xmulI hd hy (by omega) (by omega)) (by omega) (by omega)
  · have := h2 h
    exact xsubI hx (xmulI hd hy (by omega) (by omega)) (by omega) (by omega)
theorem xxor {x y : Int32} (hy : 0 ≤ y.toInt) : (x ^^^ y) < 0 ↔ x < 0 := by
  have h : ∀ z : Int32, z.toInt < 0 ↔ z.toBitVec.msb = true := by
    intro z
    rw [BitVec.msb_eq_toInt, decide_eq_true_iff]
    exact Iff.rfl
  rw [Int32.lt_iff_toInt_lt, Int32.lt_iff_toInt_lt, Int32.toInt_zero, h, h, Int32.toBitVec_xor, BitVec.msb_xor]
  have hm : y.toBitVec.msb = false := by
    cases q : y.toBitVec.msb with
    | false => rfl
    | true => have := (h y).mpr q; omega
  rw [hm, Bool.xor_false]
theorem xn_cases {n : Nat} {P : Nat → Prop} (h1 : 3 ≤ n) (h2 : n ≤ 12) (a : P 3) (b : P 4) (c : P 5) (d : P 6) (e : P 7) (f : P 8) (g : P 9) (i : P 10) (j : P 11) (k : P 12) : P n := by
  rcases (show n = 3 ∨ n = 4 ∨ n = 5 ∨ n = 6 ∨ n = 7 ∨ n = 8 ∨ n = 9 ∨ n = 10 ∨ n = 11 ∨ n = 12 by omega) with h | h | h | h | h | h | h | h | h | h <;> subst h <;> assumption
/-- division that cuts towards 0, by a ring's size: in words that omega knows -/
theorem xtdiv_n {n : Nat} (h1 : 3 ≤ n) (h2 : n ≤ 12) (a : Int) : a.tdiv n = if 0 ≤ a then a / n else -((-a) / n) := by
  by_cases h : 0 ≤ a
  · rw [if_pos h, Int.tdiv_eq_ediv_of_nonneg h]
  · rw [if_neg h, ← Int.tdiv_eq_ediv_of_nonneg (by omega), Int.neg_tdiv, Int.neg_neg]
/-! the ring in words of its own: a row of numbers f, of which the first n count -/
def xWr (n : Nat) (z : Int) : Nat := if z < 0 then (z + n).toNat else if z < n then z.toNat else (z - n).toNat
theorem xWr_lt {n : Nat} {z : Int} (h0 : 0 < n) (h1 : -n ≤ z) (h2 : z < 2 * n) : xWr n z < n := by
  unfold xWr
  split
  · omega
  · split <;> omega
def xFm (x : Int32) (n : Nat) : Int32 := Int32.ofInt (x.toInt % n)
theorem xFm_toInt {x : Int32} {n : Nat} (h0 : 3 ≤ n) (h : n ≤ 12) : (xFm x n).toInt = x.toInt % n := by
  have h1 := Int.emod_nonneg x.toInt (show (n : Int) ≠ 0 by omega)
  have h2 := Int.emod_lt_of_pos x.toInt (show (0 : Int) < n by omega)
  exact xofI (by omega) (by omega)
theorem xFm_pos {x : Int32} {n : Nat} (h1 : 3 ≤ n) (h2 : n ≤ 12) (h : ¬ x < 0) : x - x / nI n * nI n = xFm x n := by
  have h9 : ¬ x.toInt < 0 := by rw [Int32.lt_iff_toInt_lt, Int32.toInt_zero] at h; exact h
  apply xI_ext
  rw [xremI rfl (nI_toInt (n := n) (by omega)) (by omega), xFm_toInt h1 h2, Int.tdiv_eq_ediv_of_nonneg (by omega), Int.emod_def, Int.mul_comm]
theorem xtmod_neg {a : Int} {n : Nat} (h1 : 3 ≤ n) (h2 : n ≤ 12) (h : a < 0) : a - a.tdiv n * n = if a % n = 0 then 0 else a % n - n := by
  rw [xtdiv_n h1 h2, if_neg (by omega)]
  revert h
  refine xn_cases (P := fun n : Nat => a < 0 → a - -(-a / (n : Int)) * (n : Int) = if a % (n : Int) = 0 then 0 else a % (n : Int) - (n : Int)) h1 h2 ?_ ?_ ?_ ?_ ?_ ?_ ?_ ?_ ?_ ?_ <;> intro h <;> split <;> omega
theorem xFm_neg {x : Int32} {n : Nat} (h1 : 3 ≤ n) (h2 : n ≤ 12) (h : x < 0) (h9 : ¬ x - x / nI n * nI n = 0) : x - x / nI n * nI n + nI n = xFm x n := by
  rw [Int32.lt_iff_toInt_lt, Int32.toInt_zero] at h
  have e := xremI (x := x) rfl (nI_toInt (n := n) (by omega)) (by omega)
  rw [xtmod_neg h1 h2 h] at e
  have b1 := Int.emod_nonneg x.toInt (show (n : Int) ≠ 0 by omega)
  have b2 := Int.emod_lt_of_pos x.toInt (show (0 : Int) < n by omega)
  split at e
  · exact absurd (xI_ext (by rw [e, Int32.toInt_zero])) h9
  · apply xI_ext
    rw [xaddI e (nI_toInt (n := n) (by omega)) (by omega) (by omega), xFm_toInt h1 h2]
    omega
theorem xFm_zero {x : Int32} {n : Nat} (h1 : 3 ≤ n) (h2 : n ≤ 12) (h : x < 0) (h9 : x - x / nI n * nI n = 0) : x - x / nI n * nI n = xFm x n := by
  rw [Int32.lt_iff_toInt_lt, Int32.toInt_zero] at h
  have e := xremI (x := x) rfl (nI_toInt (n := n) (by omega)) (by omega)
  rw [xtmod_neg h1 h2 h] at e
  have b2 := Int.emod_lt_of_pos x.toInt (show (0 : Int) < n by omega)
  apply xI_ext
  rw [h9, Int32.toInt_zero] at e
  rw [h9, Int32.toInt_zero, xFm_toInt h1 h2]
  split at e <;> omega
def xTot (f : xRow) : Nat → Int32
  | 0 => 0
  | k + 1 => xTot f k + f k
def xMom (f : xRow) : Nat → Int32
  | 0 => 0
  | k + 1 => xMom f k + f k * nI k
/-- the place of the greatest number among the places 0 .. k, the first of several; the smallest number there; the greatest -/
def xTopI (f : xRow) : Nat → Nat
  | 0 => 0
  | k + 1 => if f (xTopI f k) < f (k + 1) then k + 1 else xTopI f k
def xLo (f : xRow) : Nat → Int32
  | 0 => f 0
  | k + 1 => if f (k + 1) < xLo f k then f (k + 1) else xLo f k
def xHi (f : xRow) : Nat → Int32
  | 0 => f 0
  | k + 1 => if xHi f k < f (k + 1) then f (k + 1) else xHi f k
theorem xTopI_le (f : xRow) : ∀ k, xTopI f k ≤ k
  | 0 => Nat.le_refl 0
  | k + 1 => by
    have := xTopI_le f k
    show (if f (xTopI f k) < f (k + 1) then k + 1 else xTopI f k) ≤ k + 1
    split <;> omega
theorem xTopI_t {f : xRow} {k : Nat} (h : ¬ f (k + 1) ≤ f (xTopI f k)) : xTopI f (k + 1) = k + 1 := if_pos (Int32.not_le.mp h)
theorem xTopI_f {f : xRow} {k : Nat} (h : f (k + 1) ≤ f (xTopI f k)) : xTopI f (k + 1) = xTopI f k := if_neg (Int32.not_lt.mpr h)
theorem xTop_hi (f : xRow) : ∀ k, f (xTopI f k) = xHi f k
  | 0 => rfl
  | k + 1 => by
    show f (if f (xTopI f k) < f (k + 1) then k + 1 else xTopI f k) = if xHi f k < f (k + 1) then f (k + 1) else xHi f k
    rw [← xTop_hi f k]
    split <;> rfl
def xSpn (n : Nat) (f : xRow) : Int32 := f (xTopI f (n - 1)) - xLo f (n - 1)
def xSt (n : Nat) (f : xRow) (p : Nat) : Bool := decide (3 < 2 * f p - f (xWr n ((p : Int) + 1)) - f (xWr n ((p : Int) - 1)))
def xFirst (P : Nat → Bool) : Nat → Nat
  | 0 => 0
  | k + 1 => if xFirst P k < k then xFirst P k else if P k then k else k + 1
theorem xFirst_none {P : Nat → Bool} : ∀ {k : Nat}, (∀ j, j < k → P j = false) → xFirst P k = k
  | 0, _ => rfl
  | k + 1, h => by
    show (if xFirst P k < k then xFirst P k else if P k then k else k + 1) = k + 1
    rw [xFirst_none (fun j hj => h j (by omega)), if_neg (Nat.lt_irrefl k), h k (by omega)]
    rfl
theorem xFirst_some {P : Nat → Bool} {i : Nat} (hi : P i = true) (hn : ∀ j, j < i → P j = false) : ∀ {k : Nat}, i < k → xFirst P k = i
  | 0, h => absurd h (Nat.not_lt_zero i)
  | k + 1, h => by
    show (if xFirst P k < k then xFirst P k else if P k then k else k + 1) = i
    by_cases hk : i < k
    · rw [xFirst_some hi hn hk, if_pos hk]
    · have e : k = i := by omega
      subst e
      rw [xFirst_none hn, if_neg (Nat.lt_irrefl k), hi]
      rfl
theorem xFirst_spec {P : Nat → Bool} : ∀ {k : Nat}, (xFirst P k < k ∧ P (xFirst P k) = true ∧ ∀ j, j < xFirst P k → P j = false) ∨ (xFirst P k = k ∧ ∀ j, j < k → P j = false)
  | 0 => Or.inr ⟨rfl, fun j h => absurd h (Nat.not_lt_zero j)⟩
  | k + 1 => by
    rcases xFirst_spec (P := P) (k := k) with ⟨h1, h2, h3⟩ | ⟨h1, h2⟩
    · have e := xFirst_some h2 h3 (k := k + 1) (by omega)
      rw [e]
      exact Or.inl ⟨by omega, h2, h3⟩
    · cases hk : P k with
      | true =>
        have e := xFirst_some hk h2 (k := k + 1) (by omega)
        rw [e]
        exact Or.inl ⟨by omega, hk, h2⟩
      | false =>
        have h4 : ∀ j, j < k + 1 → P j = false := fun j hj => by
          by_cases h : j < k
          · exact h2 j h
          · have : j = k := by omega
            rw [this]; exact hk
        exact Or.inr ⟨xFirst_none h4, h4⟩
/-- the first place of a kind as the answer has it: -1 without any -/
def xFi (P : Nat → Bool) (n : Nat) : Int32 := if xFirst P n < n then nI (xFirst P n) else -1
theorem xFi_some {P : Nat → Bool} {i n : Nat} (hi : P i = true) (hn : ∀ j, j < i → P j = false) (h : i < n) : xFi P n = nI i := by
  unfold xFi
  rw [xFirst_some hi hn h, if_pos h]
theorem xFi_none {P : Nat → Bool} {n : Nat} (hn : ∀ j, j < n → P j = false) : xFi P n = -1 := by
  unfold xFi
  rw [xFirst_none hn, if_neg (Nat.lt_irrefl n)]
def xAdd (f : xRow) (p : Nat) (x : Int32) : xRow := upd f p (f p + x)
def xTip (n : Nat) (f : xRow) (p : Nat) (t : Int32) : xRow := xAdd (xAdd (xAdd f p ((-2) * t)) (xWr n ((p : Int) + 1)) t) (xWr n ((p : Int) - 1)) t
def xStl (n : Nat) : Nat → xRow → Nat × xRow
  | 0, f => (0, f)
  | k + 1, f => if xFirst (xSt n f) n < n then ((xStl n k (xTip n f (xFirst (xSt n f) n) 1)).1 + 1, (xStl n k (xTip n f (xFirst (xSt n f) n) 1)).2) else (0, f)
theorem xStl_le (n : Nat) : ∀ (k : Nat) (f : xRow), (xStl n k f).1 ≤ k
  | 0, _ => Nat.le_refl 0
  | k + 1, f => by
    unfold xStl
    split
    · exact Nat.succ_le_succ (xStl_le n k _)
    · exact Nat.zero_le _
def xTl (n : Nat) (f : xRow) (p : Nat) : Nat → Int32
  | 0 => 0
  | k + 1 => xTl n f p k + (f (xWr n ((p : Int) + (k + 1 : Nat))) - f (xWr n ((p : Int) - (k + 1 : Nat)))) * nI (k + 1)
def xTlt (n : Nat) (f : xRow) (p : Nat) : Int32 := xTl n f p ((n - 1) / 2)
def xCnt (P : Nat → Bool) : Nat → Nat
  | 0 => 0
  | k + 1 => xCnt P k + if P k then 1 else 0
theorem xCnt_le (P : Nat → Bool) : ∀ k, xCnt P k ≤ k
  | 0 => Nat.le_refl 0
  | k + 1 => by
    have := xCnt_le P k
    show xCnt P k + (if P k then 1 else 0) ≤ k + 1
    split <;> omega
theorem xCnt_t {P : Nat → Bool} {k : Nat} (h : P k = true) : xCnt P (k + 1) = xCnt P k + 1 := by
  show xCnt P k + (if P k then 1 else 0) = _
  rw [h]; rfl
theorem xCnt_f {P : Nat → Bool} {k : Nat} (h : P k = false) : xCnt P (k + 1) = xCnt P k := by
  show xCnt P k + (if P k then 1 else 0) = _
  rw [h]; rfl
def xNe (f g : xRow) (p : Nat) : Bool := decide (¬ f p = g p)
def xMm (n : Nat) (f : xRow) : Int32 := xFm (xMom f n) n
def xCB (n : Nat) (f g : xRow) : Bool := decide (xTot f n = xTot g n) && decide (xMm n f = xMm n g)
def xRot (n : Nat) (f : xRow) : xRow := fun i => if i = 0 then f (n - 1) else if i < n then f (i - 1) else f i
def xRt (n : Nat) (f : xRow) (k : Nat) : xRow := fun i => if k < i ∧ i < n then f (i - 1) else f i
theorem xRt_0 (n : Nat) (f : xRow) : xRt n f (n - 1) = f := by
  funext i
  unfold xRt
  rw [if_neg (by omega)]
theorem xRt_s {n : Nat} (f : xRow) {k : Nat} (h : k + 1 < n) : upd (xRt n f (k + 1)) (k + 1) (xRt n f (k + 1) k) = xRt n f k := by
  funext i
  unfold upd xRt
  by_cases h1 : i = k + 1
  · subst h1
    rw [if_pos rfl, if_neg (by omega), if_pos (by omega)]
    rfl
  · rw [if_neg h1]
    by_cases h2 : k + 1 < i ∧ i < n
    · rw [if_pos h2, if_pos (by omega)]
    · rw [if_neg h2, if_neg (by omega)]
theorem xRt_e {n : Nat} (h : 0 < n) (f : xRow) : upd (xRt n f 0) 0 (f (n - 1)) = xRot n f := by
  funext i
  unfold upd xRt xRot
  by_cases h1 : i = 0
  · rw [if_pos h1, if_pos h1]
  · rw [if_neg h1, if_neg h1]
    by_cases h2 : i < n
    · rw [if_pos (by omega), if_pos h2]
    · rw [if_neg (by omega), if_neg h2]
theorem xSt_f {n : Nat} {f : xRow} {p : Nat} (c : 2 * f p - f (xWr n ((p : Int) + 1)) - f (xWr n ((p : Int) - 1)) ≤ 3) : xSt n f p = false := decide_eq_false (Int32.not_lt.mpr c)
theorem xSt_t {n : Nat} {f : xRow} {p : Nat} (c : ¬ 2 * f p - f (xWr n ((p : Int) + 1)) - f (xWr n ((p : Int) - 1)) ≤ 3) : xSt n f p = true := decide_eq_true (Int32.not_le.mp c)
theorem xB_f {b : Bool} (h : (if b = true then (1 : Int32) else 0) = 0) : b = false := by
  cases b with
  | false => rfl
  | true => exact absurd h (by decide)
theorem xB_t {b : Bool} (h : ¬ (if b = true then (1 : Int32) else 0) = 0) : b = true := by
  cases b with
  | false => exact absurd rfl h
  | true => rfl
theorem xB_z (b : Bool) : (if b = true then (1 : Int32) else 0) = 0 ∨ (if b = true then (1 : Int32) else 0) = 1 := by
  cases b with
  | false => exact Or.inl rfl
  | true => exact Or.inr rfl
theorem xB_0 {b : Bool} (h : b = false) : (0 : Int32) = if b = true then 1 else 0 := by rw [h]; rfl
theorem xB_1 {b : Bool} (h : b = true) : (1 : Int32) = if b = true then 1 else 0 := by rw [h]; rfl
theorem xWr_n {n : Nat} {pl : Int32} {z : Int} (hz : pl.toInt = z) (h0 : 3 ≤ n) (hn : n ≤ 12) (h1 : -n ≤ z) (c : ¬ 0 ≤ pl) : pl + nI n = nI (xWr n z) := by
  rw [Int32.le_iff_toInt_le, Int32.toInt_zero, hz] at c
  apply xI_ext
  rw [xaddI hz (nI_toInt (n := n) (by omega)) (by omega) (by omega), nI_toInt (by unfold xWr; split <;> omega)]
  unfold xWr
  rw [if_pos (by omega)]
  omega
theorem xWr_m {n : Nat} {pl : Int32} {z : Int} (hz : pl.toInt = z) (h0 : 3 ≤ n) (hn : n ≤ 12) (c1 : 0 ≤ pl) (c2 : ¬ nI n ≤ pl) : pl = nI (xWr n z) := by
  rw [Int32.le_iff_toInt_le, Int32.toInt_zero, hz] at c1
  rw [Int32.le_iff_toInt_le, nI_toInt (n := n) (by omega), hz] at c2
  apply xI_ext
  have e : xWr n z = z.toNat := by
    unfold xWr
    rw [if_neg (by omega), if_pos (by omega)]
  rw [e, nI_toInt (by omega), hz]
  omega
theorem xWr_p {n : Nat} {pl : Int32} {z : Int} (hz : pl.toInt = z) (h0 : 3 ≤ n) (hn : n ≤ 12) (h2 : z < 2 * n) (c1 : 0 ≤ pl) (c2 : nI n ≤ pl) : pl - nI n = nI (xWr n z) := by
  rw [Int32.le_iff_toInt_le, Int32.toInt_zero, hz] at c1
  rw [Int32.le_iff_toInt_le, nI_toInt (n := n) (by omega), hz] at c2
  apply xI_ext
  have e : xWr n z = (z - n).toNat := by
    unfold xWr
    rw [if_neg (by omega), if_neg (by omega)]
  rw [e, xsubI hz (nI_toInt (n := n) (by omega)) (by omega) (by omega), nI_toInt (by omega)]
  omega
theorem xFi_ge {P : Nat → Bool} {n : Nat} (hn : n < 2 ^ 31) (c : 0 ≤ xFi P n) : xFirst P n < n ∧ xFi P n = nI (xFirst P n) := by
  unfold xFi at c ⊢
  by_cases h : xFirst P n < n
  · exact ⟨h, if_pos h⟩
  · rw [if_neg h] at c
    exact absurd c (by decide)
theorem xFi_lt {P : Nat → Bool} {n : Nat} (hn : n < 2 ^ 31) (c : ¬ 0 ≤ xFi P n) : ¬ xFirst P n < n ∧ xFi P n = -1 := by
  unfold xFi at c ⊢
  by_cases h : xFirst P n < n
  · rw [if_pos h] at c
    exact absurd (nI_pos' (by omega)) c
  · exact ⟨h, if_neg h⟩
theorem xStl_t {n : Nat} {g : xRow} (j : Nat) (h : xFirst (xSt n g) n < n) : xStl n (j + 1) g = ((xStl n j (xTip n g (xFirst (xSt n g) n) 1)).1 + 1, (xStl n j (xTip n g (xFirst (xSt n g) n) 1)).2) := if_pos h
theorem xStl_f {n : Nat} {g : xRow} (j : Nat) (h : ¬ xFirst (xSt n g) n < n) : xStl n (j + 1) g = (0, g) := if_neg h
theorem xNe_f {f g : xRow} {k : Nat} (h : f k = g k) : xNe f g k = false := decide_eq_false (fun q => q h)
theorem xNe_t {f g : xRow} {k : Nat} (h : ¬ f k = g k) : xNe f g k = true := decide_eq_true h
theorem xCB_0 {n : Nat} {f g : xRow} (h : ¬ xTot f n = xTot g n) : xCB n f g = false := by
  unfold xCB
  rw [decide_eq_false h, Bool.false_and]
theorem xCB_1 {n : Nat} {f g : xRow} (h : ¬ xMm n f = xMm n g) : xCB n f g = false := by
  unfold xCB
  rw [decide_eq_false h, Bool.and_false]
theorem xCB_2 {n : Nat} {f g : xRow} (h : xTot f n = xTot g n) (h2 : xMm n f = xMm n g) : xCB n f g = true := by
  unfold xCB
  rw [decide_eq_true h, decide_eq_true h2]
  rfl
/-- a cell of a row is known by the places that it has -/
theorem xA_eq {γ : xG} {q n : Nat} {f g : xRow} {H : Heap} (h : ∀ i, i < n → f i = g i) (hc : va_at γ.1 vwCl (xA γ q n f) H) : va_at γ.1 vwCl (xA γ q n g) H := by
  have e : (vp_cell γ.2.1 (n, .inl f) : Cell) = vp_cell γ.2.1 (n, .inl g) := by
    show arrV _ n (fun j => .int (f j)) = arrV _ n (fun j => .int (g j))
    unfold arrV
    have e2 : (fun j : Fin n => (Value.int (f j.val))) = fun j : Fin n => Value.int (g j.val) := by
      funext j
      rw [h j.val j.isLt]
    rw [e2]
  show H[q]? = some (vp_cell γ.2.1 (n, .inl g))
  rw [← e]
  exact hc
/-- .. within a world -/
theorem xP_row {γ : xG} {W0 : va_W} {H : Heap} (hP : xP γ W0 H) (i : Nat) {q n : Nat} {f : xRow} (hi : W0[i]? = some (xA γ q n f)) (g : xRow) (h : ∀ j, j < n → f j = g j) : xP γ (W0.set i (xA γ q n g)) H := by
  intro k z hz
  by_cases e : i = k
  · subst e
    have hlt : i < W0.length := (List.getElem?_eq_some_iff.mp hi).1
    rw [List.getElem?_set_self hlt] at hz
    cases hz
    exact xA_eq h (hP i _ hi)
  · rw [List.getElem?_set_ne e] at hz
    exact hP k z hz
theorem xD_row {A : Nat → Prop} {W0 : va_W} (hD : va_D A W0) (i : Nat) {q : Nat} {e0 e : va_E} (hi : W0[i]? = some (q, e0)) : va_D A (W0.set i (q, e)) := hD.set hi

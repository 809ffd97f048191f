/-! the twin's answers in words of their own -/
def xInB (v a b : Int32) : Bool := decide (a ≤ v) && decide (v ≤ b)
theorem xInB_0 {v a b : Int32} (h : v < a) : xInB v a b = false := by
  unfold xInB
  rw [decide_eq_false (Int32.not_le.mpr h), Bool.false_and]
theorem xInB_1 {v a b : Int32} (h : b < v) : xInB v a b = false := by
  unfold xInB
  rw [decide_eq_false (Int32.not_le.mpr h), Bool.and_false]
theorem xInB_2 {v a b : Int32} (h : ¬ v < a) (h2 : ¬ b < v) : xInB v a b = true := by
  unfold xInB
  rw [decide_eq_true (Int32.not_lt.mp h), decide_eq_true (Int32.not_lt.mp h2)]
  rfl
theorem xInB_le {v a b : Int32} (h : ¬ v < a) (h2 : v ≤ b) : xInB v a b = true := xInB_2 h (Int32.not_lt.mpr h2)
theorem xIn_pl {k n : Nat} (hk : k < n) (hn : n ≤ 12) : xInB (nI k) 0 (nI n - 1) = true := by
  refine xInB_le (nI_pos (by omega)) ?_
  rw [show nI n - 1 = nI (n - 1) from pk_sub (a := n) (b := 1) (by omega)]
  exact nI_le (by omega) (by omega)
theorem xB_ne {b : Bool} (h : b = true) : ¬ (if b = true then (1 : Int32) else 0) = 0 := by
  rw [h]; decide
theorem xB_eq {b : Bool} (h : b = false) : (if b = true then (1 : Int32) else 0) = 0 := by
  rw [h]; rfl
theorem xOn {n : Nat} {x : Int32} {z : Int} (hz : x.toInt = z) (h0 : 3 ≤ n) (hn : n ≤ 12) (h1 : -(n : Int) ≤ z) (h2 : z < 2 * (n : Int)) : (x + nI n) - (x + nI n) / nI n * nI n = nI (xWr n z) := by
  apply xI_ext
  have e := xaddI hz (nI_toInt (n := n) (by omega)) (by omega) (by omega)
  rw [xremI e (nI_toInt (n := n) (by omega)) (by omega), Int.tdiv_eq_ediv_of_nonneg (by omega), nI_toInt (by have := xWr_lt (n := n) (z := z) (by omega) h1 h2; omega)]
  unfold xWr
  revert h1 h2
  refine xn_cases (P := fun n : Nat => -(n : Int) ≤ z → z < 2 * (n : Int) → z + (n : Int) - (z + (n : Int)) / (n : Int) * (n : Int) = ((if z < 0 then (z + (n : Int)).toNat else if z < (n : Int) then z.toNat else (z - (n : Int)).toNat : Nat) : Int)) h0 hn ?_ ?_ ?_ ?_ ?_ ?_ ?_ ?_ ?_ ?_ <;> intro h1 h2 <;> (split; omega; split <;> omega)
theorem xm2 (x t : Int32) : x - 2 * t = x + (-2) * t := by
  rw [Int32.sub_eq_add_neg, ← Int32.neg_mul]
theorem xFi_eq {P : Nat → Bool} {n : Nat} (hn : n < 2 ^ 31) (c : xFi P n = -1) : ¬ xFirst P n < n := by
  intro h
  unfold xFi at c
  rw [if_pos h] at c
  have h1 : 0 ≤ nI (xFirst P n) := nI_pos' (by omega)
  rw [c] at h1
  exact absurd h1 (by decide)
theorem xFi_ne {P : Nat → Bool} {n : Nat} (c : ¬ xFi P n = -1) : xFirst P n < n ∧ xFi P n = nI (xFirst P n) := by
  unfold xFi at c ⊢
  by_cases h : xFirst P n < n
  · exact ⟨h, if_pos h⟩
  · rw [if_neg h] at c
    exact absurd rfl c
theorem xStl_0 {n : Nat} {g : xRow} (h : ¬ xFirst (xSt n g) n < n) : ∀ j, xStl n j g = (0, g)
  | 0 => rfl
  | j + 1 => xStl_f j h
def xGt (tg : xRow) (t : Nat) : xRow := fun i => tg (12 * t + i)
/-- the tips to a target as the twin goes around: the place 1 is tipped c times -/
def xAr (n : Nat) (f g : xRow) (c : Int32) : Nat → Int32
  | 0 => 0
  | 1 => c
  | p + 2 => 2 * xAr n f g c (p + 1) - xAr n f g c p - (f ((p + 1) % n) - g ((p + 1) % n))
def xOff (n : Nat) (f g : xRow) : Int32 := xAr n f g 0 n
def xFst1 (n : Nat) (f g : xRow) : Int32 := -(xOff n f g) / nI n
def xSv (n : Nat) (f g : xRow) : Bool := decide (xOff n f g - xOff n f g / nI n * nI n = 0) && (decide (xAr n f g (xFst1 n f g) n = 0) && decide (xAr n f g (xFst1 n f g) (n + 1) = xFst1 n f g))
theorem xSv_0 {n : Nat} {f g : xRow} (h : ¬ xOff n f g - xOff n f g / nI n * nI n = 0) : xSv n f g = false := by
  unfold xSv
  rw [decide_eq_false h, Bool.false_and]
theorem xSv_1 {n : Nat} {f g : xRow} (h : ¬ xAr n f g (xFst1 n f g) n = 0) : xSv n f g = false := by
  unfold xSv
  rw [decide_eq_false h, Bool.false_and, Bool.and_false]
theorem xSv_2 {n : Nat} {f g : xRow} (h : ¬ xAr n f g (xFst1 n f g) (n + 1) = xFst1 n f g) : xSv n f g = false := by
  unfold xSv
  rw [decide_eq_false h, Bool.and_false, Bool.and_false]
theorem xSv_3 {n : Nat} {f g : xRow} (h : xOff n f g - xOff n f g / nI n * nI n = 0) (h2 : xAr n f g (xFst1 n f g) n = 0) (h3 : xAr n f g (xFst1 n f g) (n + 1) = xFst1 n f g) : xSv n f g = true := by
  unfold xSv
  rw [decide_eq_true h, decide_eq_true h2, decide_eq_true h3]
  rfl
/-- the smallest of the first k, from the greatest number down -/
def xMf (G : Nat → Int32) : Nat → Int32
  | 0 => 2147483647
  | k + 1 => if G k < xMf G k then G k else xMf G k
theorem xMf_congr {G K : Nat → Int32} : ∀ {n : Nat}, (∀ i, i < n → G i = K i) → xMf G n = xMf K n
  | 0, _ => rfl
  | k + 1, e => by
    show (if G k < xMf G k then G k else xMf G k) = if K k < xMf K k then K k else xMf K k
    rw [xMf_congr (fun i hi => e i (by omega)), e k (by omega)]
def xMw (n : Nat) (h : xRow) : Int32 := xMf (fun p => xAw h (h p) n) n
theorem xMw_congr {n : Nat} {h g : xRow} (e : ∀ i, i < n → h i = g i) : xMw n h = xMw n g := by
  unfold xMw
  refine xMf_congr (fun i hi => ?_)
  rw [xAw_congr e, e i hi]
def xFewM (n : Nat) (f g : xRow) : Int32 := if xSv n f g = true then xMw n (xAr n f g (xFst1 n f g)) else -1
/-- the nearest target as the twin looks for it -/
def xNrM (F : Nat → Int32) : Nat → Int32 × Int32
  | 0 => (-1, 2147483647)
  | k + 1 => if ¬ F k = -1 ∧ F k < (xNrM F k).2 then (nI k, F k) else xNrM F k
theorem xNrM_t {F : Nat → Int32} {k : Nat} (h : ¬ F k = -1 ∧ F k < (xNrM F k).2) : xNrM F (k + 1) = (nI k, F k) := if_pos h
theorem xNrM_f {F : Nat → Int32} {k : Nat} (h : ¬ (¬ F k = -1 ∧ F k < (xNrM F k).2)) : xNrM F (k + 1) = xNrM F k := if_neg h
def xRsM (n : Nat) (f : xRow) : Int32 := if xFi (xSt n (xStl n 300 f).2) n = -1 then nI (xStl n 300 f).1 else -1
def xSrM (n : Nat) (f : xRow) : Int32 := if xRsM n f = -1 then -1 else xSpn n (xStl n 300 f).2
theorem xBp_t2 {n : Nat} {f : xRow} {k : Nat} (h : xSp2 n f k < (xBp n f k).2) : xBp n f (k + 1) = (nI k, xSp2 n f k) := if_pos h
theorem xBp_f2 {n : Nat} {f : xRow} {k : Nat} (h : ¬ xSp2 n f k < (xBp n f k).2) : xBp n f (k + 1) = xBp n f k := if_neg h
def xPfM (n : Nat) (f g : xRow) (x : Int32) (p : Nat) : Bool := xSv n (upd f p x) g
def xPlM (n kc : Nat) (f tg : xRow) (x : Int32) : Int32 := if kc = 0 then -1 else xFi (xPfM n f (xGt tg 0) x) n
def xMTM (n : Nat) (f tg : xRow) (d : Int64) : Nat → Int64
  | 0 => d
  | k + 1 => xMx (xMx (xMx (xMTM n f tg d k) (nI (xCnt (xNe f (xGt tg k)) n)).toInt64) (xBL (xSv n f (xGt tg k)))) (xFewM n f (xGt tg k)).toInt64
def xFold (h : xRow) (d : Int64) : Nat → Int64
  | 0 => d
  | k + 1 => xMx (xFold h d k) (h k).toInt64
def xDgM (n kc : Nat) (f tg : xRow) (td : Int32) : Int64 :=
  xMTM n f tg (xMP n f (xMx (xMx (xMx (xMx (xMx (xMx (xMx (xMx (xMx (xMx (xMx (xMx (xMx (xMx (xMx (xMx (xMx 2333 (nI n).toInt64) (nI kc).toInt64) td.toInt64) (xTot f n).toInt64) (xMm n f).toInt64) (xSpn n f).toInt64) (nI (xTopI f (n - 1))).toInt64) (nI (xCnt (xSt n f) n)).toInt64) (xFi (xSt n f) n).toInt64) (nI (xCnt (xLv n f) n)).toInt64) (nI (xBa (xTlt n f) (n - 1))).toInt64) (nI (xCnt (fun t => xSv n f (xGt tg t)) kc)).toInt64) (xNrM (fun t => xFewM n f (xGt tg t)) kc).1.toInt64) (xRsM n f).toInt64) (xSrM n f).toInt64) (xBp n f n).1.toInt64) (xPlM n kc f tg 0).toInt64) n) kc
theorem xupd_back (f : xRow) (k : Nat) (x : Int32) : upd (upd f k x) k (f k) = f := by
  funext i
  unfold upd
  split
  · rename_i e; rw [e]
  · rfl

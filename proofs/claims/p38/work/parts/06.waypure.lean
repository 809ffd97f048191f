/-! the tips from a ring f to a ring g: what Way holds -/
def xOth (n : Nat) (f g : xRow) : Nat → Int32
  | 0 => 0
  | k + 1 => xOth n f g k + (g (k + 1) - f (k + 1)) * nI (n - (k + 1))
def xFC (n : Nat) (f g : xRow) : Int32 := -(xOth n f g (n - 1)) / nI n
def xCl (n : Nat) (f g : xRow) : Nat → Int32
  | 0 => xFC n f g
  | p + 1 => xCl n f g p + if p = 0 then 0 else g p - f p
def xHt (n : Nat) (f g : xRow) : Nat → Int32
  | 0 => 0
  | p + 1 => xHt n f g p + xCl n f g (p + 1)
theorem xCl_t {n : Nat} {f g : xRow} {p : Nat} (h : ¬ nI p = 0) : xCl n f g p + (g p - f p) = xCl n f g (p + 1) := by
  show _ = xCl n f g p + if p = 0 then 0 else g p - f p
  rw [if_neg (fun e => h (by rw [e]; rfl))]
theorem xCl_f {n : Nat} {f g : xRow} {p : Nat} (hp : p < 12) (h : nI p = 0) : xCl n f g p + 0 = xCl n f g (p + 1) := by
  show _ = xCl n f g p + if p = 0 then 0 else g p - f p
  rw [if_pos ((nI_eq (a := p) (b := 0) (by omega) (by omega)).mp h)]
def xAbs (y : Int32) : Int32 := if 0 ≤ y then y else 0 - y
def xAw (h : xRow) (x : Int32) : Nat → Int32
  | 0 => 0
  | k + 1 => xAw h x k + xAbs (h k - x)
def xFw (n : Nat) (h : xRow) : Int32 := xLo (fun p => xAw h (h p) n) (n - 1)
theorem xAw_congr {h g : xRow} {x : Int32} : ∀ {n : Nat}, (∀ i, i < n → h i = g i) → xAw h x n = xAw g x n
  | 0, _ => rfl
  | k + 1, e => by
    show xAw h x k + xAbs (h k - x) = xAw g x k + xAbs (g k - x)
    rw [xAw_congr (fun i hi => e i (by omega)), e k (by omega)]
theorem xLo_congr {h g : xRow} : ∀ {n : Nat}, (∀ i, i ≤ n → h i = g i) → xLo h n = xLo g n
  | 0, e => e 0 (Nat.le_refl 0)
  | k + 1, e => by
    show (if h (k + 1) < xLo h k then h (k + 1) else xLo h k) = if g (k + 1) < xLo g k then g (k + 1) else xLo g k
    rw [xLo_congr (fun i hi => e i (by omega)), e (k + 1) (by omega)]
theorem xFw_congr {n : Nat} {h g : xRow} (h0 : 0 < n) (e : ∀ i, i < n → h i = g i) : xFw n h = xFw n g := by
  unfold xFw
  refine xLo_congr (fun i hi => ?_)
  rw [xAw_congr e, e i (by omega)]
def xWay (n : Nat) (f g : xRow) : Int32 := xFw n (xHt n f g)
/-- the fewest tips from f to g as the answer has them -/
def xFew (n : Nat) (f g : xRow) : Int32 := if xCB n f g = true then xWay n f g else -1

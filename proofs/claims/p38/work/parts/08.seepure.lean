/-! the seesaw's answers in words of their own; the kept rings as a stretch of the world -/
def xKp (γ : xG) (kq ka : Nat → Nat) (kn : Nat → Int32) (ks : Nat → xRow) : va_W :=
  [xO (kq 0) 0 [.ref (ka 0), .int (kn 0)], xA γ (ka 0) 12 (ks 0), xO (kq 1) 0 [.ref (ka 1), .int (kn 1)], xA γ (ka 1) 12 (ks 1), xO (kq 2) 0 [.ref (ka 2), .int (kn 2)], xA γ (ka 2) 12 (ks 2),
   xO (kq 3) 0 [.ref (ka 3), .int (kn 3)], xA γ (ka 3) 12 (ks 3), xO (kq 4) 0 [.ref (ka 4), .int (kn 4)], xA γ (ka 4) 12 (ks 4), xO (kq 5) 0 [.ref (ka 5), .int (kn 5)], xA γ (ka 5) 12 (ks 5)]
theorem x6 {P : Nat → Prop} {t : Nat} (h : t < 6) (a : P 0) (b : P 1) (c : P 2) (d : P 3) (e : P 4) (f : P 5) : P t := by
  rcases (show t = 0 ∨ t = 1 ∨ t = 2 ∨ t = 3 ∨ t = 4 ∨ t = 5 by omega) with h | h | h | h | h | h <;> subst h <;> assumption
theorem xKp_o {γ : xG} {kq ka : Nat → Nat} {kn : Nat → Int32} {ks : Nat → xRow} {base : va_W} {nb t : Nat} {v : Int32} (hb : base.length = nb) (ht : t < 6) (hv : kn t = v) : (base ++ xKp γ kq ka kn ks)[nb + 2 * t]? = some (xO (kq t) 0 [.ref (ka t), .int v]) := by
  subst hb; subst hv
  rw [List.getElem?_append_right (by omega), Nat.add_sub_cancel_left]
  exact x6 (P := fun t => (xKp γ kq ka kn ks)[2 * t]? = some (xO (kq t) 0 [.ref (ka t), .int (kn t)])) ht rfl rfl rfl rfl rfl rfl
theorem xKp_r {γ : xG} {kq ka : Nat → Nat} {kn : Nat → Int32} {ks : Nat → xRow} {base : va_W} {nb t : Nat} (hb : base.length = nb) (ht : t < 6) : (base ++ xKp γ kq ka kn ks)[nb + 2 * t + 1]? = some (xA γ (ka t) 12 (ks t)) := by
  subst hb
  rw [List.getElem?_append_right (by omega), show base.length + 2 * t + 1 - base.length = 2 * t + 1 by omega]
  exact x6 (P := fun t => (xKp γ kq ka kn ks)[2 * t + 1]? = some (xA γ (ka t) 12 (ks t))) ht rfl rfl rfl rfl rfl rfl
theorem xisN {W0 : va_W} : ([] : List Nat).filterMap (fun i => W0[i]?) = [] := rfl
theorem xisC {W0 : va_W} {i : Nat} {is : List Nat} {a : Nat × va_E} {w : va_W} (h : W0[i]? = some a) (t : is.filterMap (fun i => W0[i]?) = w) : (i :: is).filterMap (fun i => W0[i]?) = a :: w := by
  rw [List.filterMap_cons, h, t]
theorem xismN {W0 : va_W} : ([] : List Nat).map (fun i => W0[i]?) = ([] : va_W).map some := rfl
theorem xismC {W0 : va_W} {i : Nat} {is : List Nat} {a : Nat × va_E} {w : va_W} (h : W0[i]? = some a) (t : is.map (fun i => W0[i]?) = w.map some) : (i :: is).map (fun i => W0[i]?) = (a :: w).map some := by
  rw [List.map_cons, h, t, List.map_cons]
theorem xset_same {W0 : va_W} {i : Nat} {a : Nat × va_E} (h : W0[i]? = some a) : W0.set i a = W0 := by
  apply List.ext_getElem?
  intro k
  by_cases e : i = k
  · subst e
    rw [List.getElem?_set_self (List.getElem?_eq_some_iff.mp h).1, h]
  · rw [List.getElem?_set_ne e]
theorem xup_2 {W0 : va_W} {i j : Nat} {a b : Nat × va_E} {is : List Nat} {w : va_W} (h1 : W0[i]? = some a) (h2 : W0[j]? = some b) : xup W0 (i :: j :: is) (a :: b :: w) = xup W0 is w := by
  show xup ((W0.set i a).set j b) is w = xup W0 is w
  rw [xset_same h1, xset_same h2]
theorem x_aald {p : Program} {l : Launch} {e : Env} {R : Room} {s : State} {m : MethodId} {args : Array Value} {below : List Frame} {meth : Method} {c : Code} {H : Heap} {locs : List Loc} {cells slots : Nat} {Q : State → Prop} {cc : ByteArray} {pc : Nat} {ls : Array Slot} {γ : xG}
    {rest : List Value} {a v : Nat} {W0 : va_W} (hx : p.tables.exec = Jvm.exec) (hb : c.code = cc) (hK : xK γ s) (hP : xP γ W0 H) (q0 : Nat) {n : Nat} {f : Nat → Option Nat} (ha : W0[q0]? = some (xQ γ a n f)) {i : Int32} (k : Nat) (hi : i = nI k) (hk : k < n) (hn : n < 2 ^ 31) (hv : f k = some v) (hdg : decode cc pc = .ok (.aaload, 1))
    (kk : W p l e R s m args below meth c H locs cells slots Q (F0 m (pc + 1) ls (.ref v :: rest))) : W p l e R s m args below meth c H locs cells slots Q (F0 m pc ls (.int i :: .ref a :: rest)) := by
  subst hi
  have e1 : (nI k).toNatClampNeg = k := nI_clamp (by omega)
  refine va_aldq hx hb hK hP q0 1 ha rfl (vp_in_nI hk hn) hdg ?_
  rw [e1, hv]
  exact kk
/-- the axis nearest to 0 among 0 .. k, the first of several -/
def xBa (G : Nat → Int32) : Nat → Nat
  | 0 => 0
  | k + 1 => if xAbs (G (k + 1)) < xAbs (G (xBa G k)) then k + 1 else xBa G k
theorem xBa_le (G : Nat → Int32) : ∀ k, xBa G k ≤ k
  | 0 => Nat.le_refl 0
  | k + 1 => by
    have := xBa_le G k
    show (if xAbs (G (k + 1)) < xAbs (G (xBa G k)) then k + 1 else xBa G k) ≤ k + 1
    split <;> omega
theorem xBa_t {G : Nat → Int32} {k : Nat} (h : ¬ xAbs (G (xBa G k)) ≤ xAbs (G (k + 1))) : xBa G (k + 1) = k + 1 := if_pos (Int32.not_le.mp h)
theorem xBa_f {G : Nat → Int32} {k : Nat} (h : xAbs (G (xBa G k)) ≤ xAbs (G (k + 1))) : xBa G (k + 1) = xBa G k := if_neg (Int32.not_lt.mpr h)
def xLv (n : Nat) (f : xRow) (p : Nat) : Bool := decide (xTlt n f p = 0)
theorem xLv_t {n : Nat} {f : xRow} {p : Nat} (h : xTlt n f p = 0) : xLv n f p = true := decide_eq_true h
theorem xLv_f {n : Nat} {f : xRow} {p : Nat} (h : ¬ xTlt n f p = 0) : xLv n f p = false := decide_eq_false h
/-- the nearest of the first targets and its tips, as they are kept while looking: -1, -1 at first -/
def xNear (F : Nat → Int32) : Nat → Int32 × Int32
  | 0 => (-1, -1)
  | k + 1 => if 0 ≤ F k ∧ ((xNear F k).1 < 0 ∨ F k < (xNear F k).2) then (nI k, F k) else xNear F k
theorem xNear_t {F : Nat → Int32} {k : Nat} (h : 0 ≤ F k ∧ ((xNear F k).1 < 0 ∨ F k < (xNear F k).2)) : xNear F (k + 1) = (nI k, F k) := if_pos h
theorem xNear_f {F : Nat → Int32} {k : Nat} (h : ¬ (0 ≤ F k ∧ ((xNear F k).1 < 0 ∨ F k < (xNear F k).2))) : xNear F (k + 1) = xNear F k := if_neg h
/-- the smaller spread of a place tipped once, or back -/
def xSp2 (n : Nat) (f : xRow) (p : Nat) : Int32 := if xSpn n (xTip n f p (-1)) < xSpn n (xTip n f p 1) then xSpn n (xTip n f p (-1)) else xSpn n (xTip n f p 1)
def xBp (n : Nat) (f : xRow) : Nat → Int32 × Int32
  | 0 => (-1, xSpn n f)
  | k + 1 => if xSp2 n f k < (xBp n f k).2 then (nI k, xSp2 n f k) else xBp n f k
theorem xBp_t {n : Nat} {f : xRow} {k : Nat} (h : ¬ (xBp n f k).2 ≤ xSp2 n f k) : xBp n f (k + 1) = (nI k, xSp2 n f k) := if_pos (Int32.not_le.mp h)
theorem xBp_f {n : Nat} {f : xRow} {k : Nat} (h : (xBp n f k).2 ≤ xSp2 n f k) : xBp n f (k + 1) = xBp n f k := if_neg (Int32.not_lt.mpr h)
def xPf (n : Nat) (f g : xRow) (x : Int32) (p : Nat) : Bool := xCB n (upd f p x) g
def xRs (n : Nat) (f : xRow) : Int32 := if 0 ≤ xFi (xSt n (xStl n 300 f).2) n then -1 else nI (xStl n 300 f).1
theorem xRs_t {n : Nat} {f : xRow} (h : 0 ≤ xFi (xSt n (xStl n 300 f).2) n) : xRs n f = -1 := if_pos h
theorem xRs_f {n : Nat} {f : xRow} (h : ¬ 0 ≤ xFi (xSt n (xStl n 300 f).2) n) : xRs n f = nI (xStl n 300 f).1 := if_neg h
def xSr (n : Nat) (f : xRow) : Int32 := if 0 ≤ xRs n f then xSpn n (xStl n 300 f).2 else -1
def xMx (d x : Int64) : Int64 := d * 31 + x
def xBL (b : Bool) : Int64 := if b = true then 1 else 0
theorem xBL_t {b : Bool} (h : b = true) : xBL b = 1 := by rw [h]; rfl
theorem xBL_f {b : Bool} (h : b = false) : xBL b = 0 := by rw [h]; rfl
def xMP (n : Nat) (f : xRow) (d : Int64) : Nat → Int64
  | 0 => d
  | k + 1 => xMx (xMx (xMx (xMP n f d k) (f k).toInt64) (xBL (xSt n f k))) (xTlt n f k).toInt64
def xMT (n : Nat) (f : xRow) (ks : Nat → xRow) (d : Int64) : Nat → Int64
  | 0 => d
  | k + 1 => xMx (xMx (xMx (xMT n f ks d k) (nI (xCnt (xNe f (ks k)) n)).toInt64) (xBL (xCB n f (ks k)))) (xFew n f (ks k)).toInt64
def xPl (n kc : Nat) (f : xRow) (ks : Nat → xRow) (x : Int32) : Int32 := if kc = 0 then -1 else xFi (xPf n f (ks 0) x) n
def xDg (n kc : Nat) (f : xRow) (ks : Nat → xRow) (td : Int32) : Int64 :=
  xMT n f ks (xMP n f (xMx (xMx (xMx (xMx (xMx (xMx (xMx (xMx (xMx (xMx (xMx (xMx (xMx (xMx (xMx (xMx (xMx 2333 (nI n).toInt64) (nI kc).toInt64) td.toInt64) (xTot f n).toInt64) (xMm n f).toInt64) (xSpn n f).toInt64) (nI (xTopI f (n - 1))).toInt64) (nI (xCnt (xSt n f) n)).toInt64) (xFi (xSt n f) n).toInt64) (nI (xCnt (xLv n f) n)).toInt64) (nI (xBa (xTlt n f) (n - 1))).toInt64) (nI (xCnt (fun t => xCB n f (ks t)) kc)).toInt64) (xNear (fun t => xFew n f (ks t)) kc).1.toInt64) (xRs n f).toInt64) (xSr n f).toInt64) (xBp n f n).1.toInt64) (xPl n kc f ks 0).toInt64) n) kc

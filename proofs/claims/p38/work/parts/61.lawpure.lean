/-! the law: words of the whole claim, and what its walk needs -/
def R_law : String := "RingSeesawLaw"
def lw_P (b : Addr) (xs : List Int32) (args : Array Value) (s : State) : Prop := args = #[.ref b] ∧ s.IntsAt b xs ∧ xs.length ≤ 260 ∧ (Jvm.Cond.and given_1 narrow_1).before args s = true
/-- what a walk over the start with the record d0 says of its end, said of the start itself -/
theorem lw_closed {s t : State} {o : Outcome} {d0 : Drawn} {L : List Loc} {k n : Nat} (hd0 : s.drawn.sameBut d0 lw_cs) (hv : ∃ v, o = .returned v) (hW : (s.setDrawn d0).WarmedH t.vm) (hs : (s.setDrawn d0).sameButNew ({ t with vm := s.vm } : State) L k n) : State.butDraws s t lw_cs (fun t1 => Framed s o t1 L k n) := by
  have h2 : t.drawn = d0 := congrArg State.drawn hs.1
  refine ⟨⟨hv, hW, State.sameButNew.setDrawn hs s.drawn⟩, ?_, by decide⟩
  rw [h2]
  exact hd0
def lw_Q (_ : Array Value) (s : State) (o : Outcome) (t : State) : Prop := o = .returned (some (.int 1)) ∧ State.butDraws s t lw_cs (fun t1 => Framed s o t1 [] 600172 7300668)
def lw_Z (below : List Frame) (a : Array Value) (s : State) : State → Prop := fun t => ∃ o, t.status = .running ∧ Ended t below o ∧ lw_Q a s o t
/-- the law's own end, with 1 on the stack, nothing written that was there before, its room as the claim has it; d0: the record of draws at this point (at the entry s.drawn: begin with 'refine W.base ?_' and 'have hd0 := Drawn.sameBut.refl s.drawn lw_cs') -/
theorem lw_ret {p : Program} {l : Launch} {e : Env} {s : State} {m : MethodId} {below : List Frame} {meth : Method} {c : Code} {b : Nat} {d0 : Drawn} (hd0 : s.drawn.sameBut d0 lw_cs) (hx : p.tables.exec = Jvm.exec) (hb : c.code = code) (hr : meth.sig.returnType = ret) (hlocks : meth.locks = false) {pc : Nat} {H : Heap} {ls : Array Slot} (hdg : decode code pc = .ok (.ireturn, 1)) : W p l e room_1 (s.setDrawn d0) m #[Value.ref b] below meth c H [] 600172 7300668 (lw_Z below #[Value.ref b] s) (F0 m pc ls [.int 1]) := by
  intro T hT X
  obtain ⟨fs, hret, hrun, hended, hW, hframe⟩ := X.leave (v := some (.int 1)) (hlocks := hlocks) (fun h => by rw [hr] at h; cases h)
  have hmeth' : T.vm.method? m = some meth := X.method'
  refine ⟨T.setFrames fs, ?_, .returned (some (.int 1)), hrun, hended, rfl, lw_closed hd0 ⟨_, rfl⟩ hW hframe⟩
  jvm_step X.here [X.here.top, hx, hb, hdg, hmeth', hr, ret, narrow_b1]
  (try refine ⟨rfl, ?_⟩); (try refine ⟨rfl, ?_⟩)
  first | (intro acts; rw [hret _ acts rfl rfl rfl]) | rw [hret _ _ rfl rfl rfl]
  exact Steps.refl _
/-- what holds at the law's entry: the machine, the code, the tables' words (any of lw_tbl by 'hts w (by decide +kernel)'), the script of L ints xs at the cell b, what the Statement gives of the start (any of its parts by flat_of_before) -/
def lw_At (p : Program) (s : State) (m : MethodId) (meth : Method) (c : Code) (b L : Nat) (xs : Nat → Int32) : Prop :=
  p.tables.exec = Jvm.exec ∧ c.code = code ∧ meth.sig.returnType = ret ∧ c.maxLocals = 27 ∧ s.vm.findClass R_law = some m.cls ∧ (∀ w ∈ lw_tbl, w.before #[Value.ref b] s = true) ∧ va_X b L xs s s.heap ∧ b < s.heap.size ∧ meth.locks = false ∧ (Jvm.Cond.and given_1 narrow_1).before #[Value.ref b] s = true
section LP
variable {p : Program} {l : Launch} {e : Env} {R : Room} {s : State} {m : MethodId} {args : Array Value} {below : List Frame} {meth : Method} {c : Code} {H : Heap} {locs : List Loc} {cells slots : Nat} {Q : State → Prop}
variable {cc : ByteArray} {pc : Nat} {ls : Array Slot} {γ : xG} {A : Nat → Prop} {rest : List Value}
theorem x_lcmp {x y : Int64} (h : x = y) (hexec : p.tables.exec = Jvm.exec) (hb : c.code = cc) (hdg : decode cc pc = .ok (.lcmp, 1)) (k : W p l e R s m args below meth c H locs cells slots Q (F0 m (pc + 1) ls (.int 0 :: rest))) : W p l e R s m args below meth c H locs cells slots Q (F0 m pc ls (.long y :: .long x :: rest)) := by
  subst h
  intro T hT X
  obtain ⟨t, a, b⟩ := k T hT X
  refine ⟨t, ?_, b⟩
  have hlt : ¬ x < x := Int64.lt_irrefl
  jvm_step X.here [X.here.top, hexec, hb, hdg, hlt]
  exact a
end LP
theorem xFi_c {P : Nat → Bool} {n : Nat} (hn : n ≤ 12) : 0 ≤ xFi P n ↔ ¬ xCnt P n = 0 := by
  rcases xFi_cnt (P := P) hn with ⟨h1, h2⟩ | ⟨h1, h2, h3, -⟩
  · rw [h2]; exact ⟨fun h => absurd h (by decide), fun h => absurd h1 h⟩
  · rw [h3]; exact ⟨fun _ => by omega, fun _ => nI_pos' (by omega)⟩
theorem xFi_p {P : Nat → Bool} {n : Nat} (hn : n ≤ 12) (h : ¬ nI (xCnt P n) ≤ 0) : xFirst P n < n ∧ xFi P n = nI (xFirst P n) ∧ P (xFirst P n) = true := by
  rcases xFi_cnt (P := P) hn with ⟨h1, -⟩ | ⟨-, h2, h3, h4⟩
  · rw [h1] at h
    exact absurd (nI_le (a := 0) (b := 0) (Nat.le_refl 0) (by decide)) h
  · exact ⟨h2, h3, h4⟩
theorem nI_01 {k : Nat} (hk : k < 1000) : nI k = 1 ↔ k = 1 := nI_eq (a := k) (b := 1) (by omega) (by omega)
theorem xif_0 {P : Prop} [Decidable P] (h : ¬ P) : (0 : Int32) = if P then 1 else 0 := (if_neg h).symm
theorem xif_1 {P : Prop} [Decidable P] (h : P) : (1 : Int32) = if P then 1 else 0 := (if_pos h).symm
theorem xFew_n {n : Nat} {f g : xRow} (h0 : 3 ≤ n) (hn : n ≤ 12) (hf : xBd f) (hg : xBd g) (h : xFew n f g < 0) : xCB n f g = false := by
  rcases xFew_lt h0 hn hf hg with ⟨-, h2⟩ | ⟨h1, -⟩
  · exact absurd h (Int32.not_lt.mpr h2)
  · exact h1
theorem xFew_p {n : Nat} {f g : xRow} (h0 : 3 ≤ n) (hn : n ≤ 12) (hf : xBd f) (hg : xBd g) (h : ¬ xFew n f g < 0) : xCB n f g = true := by
  rcases xFew_lt h0 hn hf hg with ⟨h1, -⟩ | ⟨-, h2⟩
  · exact h1
  · exact absurd h2 h
theorem xFew_ge {n : Nat} {f g : xRow} (h0 : 3 ≤ n) (hn : n ≤ 12) (hf : xBd f) (hg : xBd g) (h : xCB n f g = true) : 0 ≤ xFew n f g := by
  rcases xFew_lt h0 hn hf hg with ⟨-, h2⟩ | ⟨h1, -⟩
  · exact h2
  · rw [h1] at h; cases h
theorem xNear_w {F : Nat → Int32} {k t : Nat} (hk : k ≤ 6) (ht : t < k) (h0 : 0 ≤ F t) : ∃ j, j < k ∧ xNear F k = (nI j, F j) ∧ 0 ≤ F j ∧ ∀ t, t < k → 0 ≤ F t → ¬ F t < F j ∧ (F j = F t → j ≤ t) := by
  rcases xNear_spec F k hk with ⟨h1, -⟩ | h
  · exact absurd h0 (h1 t ht)
  · exact h
theorem xNear_n {F : Nat → Int32} {k : Nat} (hk : k ≤ 6) (h : ∀ t, t < k → ¬ 0 ≤ F t) : (xNear F k).1 = -1 := by
  rcases xNear_spec F k hk with ⟨-, h2⟩ | ⟨j, hj, -, h3, -⟩
  · rw [h2]
  · exact absurd h3 (h j hj)
theorem xNear_z {n kc : Nat} {f : xRow} {ks : Nat → xRow} (hkc : kc ≤ 6) (h : nI (xCnt (fun t9 => xCB n f (ks t9)) kc) = 0) : (xNear (fun t9 => xFew n f (ks t9)) kc).1 = -1 := by
  have h1 := (nI_00 (by have := xCnt_le (fun t9 => xCB n f (ks t9)) kc; omega)).mp h
  refine xNear_n hkc (fun t ht h2 => ?_)
  have h3 : xCB n f (ks t) = false := xCnt_0.mp h1 t ht
  have h2' : (0 : Int32) ≤ xFew n f (ks t) := h2
  unfold xFew at h2'
  rw [if_neg (by rw [h3]; decide)] at h2'
  exact absurd h2' (by decide)
theorem xFew_mw {n : Nat} {f g : xRow} (hn0 : 3 ≤ n) (h : xCB n f g = true) : xFew n f g = xMf (fun p => xAw (xHt n f g) (xHt n f g p) n) n := by
  unfold xFew xWay
  rw [if_pos h]
  exact (xMw_fw hn0 (xHt n f g)).symm
theorem xSp2_n {n : Nat} {f : xRow} {k : Nat} {v : Int32} (h : ¬ xSp2 n f k < v) : ¬ xSpn n (xTip n f k 1) < v ∧ ¬ xSpn n (xTip n f k (-1)) < v := by
  have h1 := xSp2_le n f k
  rw [Int32.lt_iff_toInt_lt] at h
  rw [Int32.lt_iff_toInt_lt, Int32.lt_iff_toInt_lt]
  omega
theorem xPl_w {P : Nat → Bool} {n t : Nat} (hn : n ≤ 12) (ht : t < n) (h : ¬ (if P t = true then (1 : Int32) else 0) = if nI t = xFi P n then 1 else 0) : ¬ nI t ≤ xFi P n ∧ 0 ≤ xFi P n := by
  cases hP : P t with
  | true =>
    rw [hP, if_pos rfl] at h
    have h1 : ¬ nI t = xFi P n := fun e => h (by rw [if_pos e])
    have h2 := xFi_le hn ht hP
    have h3 : 0 ≤ xFi P n := (xFi_c hn).mpr (fun e => by rw [xCnt_0.mp e t ht] at hP; cases hP)
    refine ⟨fun h4 => h1 ?_, h3⟩
    apply xI_ext
    rw [Int32.le_iff_toInt_le] at h2 h4
    omega
  | false =>
    rw [hP, if_neg (by decide)] at h
    have h1 : nI t = xFi P n := Classical.byContradiction (fun e => h (by rw [if_neg e]))
    exfalso
    rcases xFi_cnt (P := P) hn with ⟨-, h2⟩ | ⟨-, h3, h4, h5⟩
    · rw [h2] at h1
      have h6 := congrArg Int32.toInt h1
      rw [nI_toInt (by omega), show (-1 : Int32).toInt = -1 by decide] at h6
      omega
    · rw [h4] at h1
      have h6 := (nI_eq (by omega) (by omega)).mp h1
      rw [← h6, hP] at h5
      cases h5
theorem xMin9 {d a b : Nat} (h : d = if b < a then b else a) (ha : a < 1000) (hb : b < 1000) : (if nI a < nI b then nI a else nI b) = nI d := by
  by_cases c : a < b
  · rw [if_pos (nI_lt c (by omega)), h, if_neg (by omega)]
  · rw [if_neg (nI_nlt (by omega) (by omega)), h]
    by_cases c2 : b < a
    · rw [if_pos c2]
    · rw [if_neg c2, show a = b by omega]
theorem xLt_0 {a b : Nat} (hb : b < 1000) (c : nI b ≤ nI a) : (0 : Int32) = if a < b then 1 else 0 := xif_0 (fun h => nI_ge h (by omega) c)
theorem xLt_1 {a b : Nat} (ha : a < 1000) (c : ¬ nI b ≤ nI a) : (1 : Int32) = if a < b then 1 else 0 := xif_1 (Classical.byContradiction (fun h => c (nI_le (by omega) (by omega))))
theorem xMinLt {d D k : Nat} (h : d = if D < k then D else k) : (if d < k then (1 : Int32) else 0) = if D < k then 1 else 0 := by
  by_cases c : D < k
  · rw [if_pos c] at h
    rw [if_pos (show d < k by omega), if_pos c]
  · rw [if_neg c] at h
    rw [if_neg (show ¬ d < k by omega), if_neg c]
theorem xRs_after {n k : Nat} {f : xRow} (hn : n ≤ 12) (hk : k ≤ 300) (h : xQu n (xStl n 300 f).2) : xRs n (xStl n k f).2 = nI (xStl n 300 f).1 - nI (xStl n k f).1 ∧ xSr n (xStl n k f).2 = xSpn n (xStl n 300 f).2 := by
  obtain ⟨h1, h2⟩ := xStl_rest hk h
  rcases xRs_q (f := (xStl n k f).2) hn with ⟨-, h3, h4⟩ | ⟨h3, -⟩
  · rw [h3, h4, h1]
    exact ⟨(pk_sub h2).symm, rfl⟩
  · exact absurd (by rw [h1]; exact h) h3
theorem x50 {x : Int32} (h1 : ¬ x < (-50)) (h2 : x ≤ 50) : -50 ≤ x.toInt ∧ x.toInt ≤ 50 := by
  rw [Int32.lt_iff_toInt_lt] at h1
  rw [Int32.le_iff_toInt_le] at h2
  have e1 : (-50 : Int32).toInt = -50 := by decide
  have e2 : (50 : Int32).toInt = 50 := by decide
  omega

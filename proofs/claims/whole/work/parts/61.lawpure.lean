def R_law : String := "RingSeesawLaw"
def lw_P (b : Addr) (xs : List Int32) (args : Array Value) (s : State) : Prop := args = #[.ref b] ∧ s.IntsAt b xs ∧ xs.length ≤ 1536 ∧ (Jvm.Cond.and given_1 narrow_1).before args s = true
/-- what a walk over the start with the record d0 says of its end, said of the start itself -/
theorem lw_closed {s t : State} {o : Outcome} {d0 : Drawn} {L : List Loc} {k n : Nat} (hd0 : s.drawn.sameBut d0 lw_cs) (hv : ∃ v, o = .returned v) (hW : (s.setDrawn d0).WarmedH t.vm) (hs : (s.setDrawn d0).sameButNew ({ t with vm := s.vm } : State) L k n) : State.butDraws s t lw_cs (fun t1 => Framed s o t1 L k n) := by
  have h2 : t.drawn = d0 := congrArg State.drawn hs.1
  refine ⟨⟨hv, hW, State.sameButNew.setDrawn hs s.drawn⟩, ?_, by decide⟩
  rw [h2]
  exact hd0
def lw_Q (_ : Array Value) (s : State) (o : Outcome) (t : State) : Prop := o = .returned (some (.int 1)) ∧ State.butDraws s t lw_cs (fun t1 => Framed s o t1 [] 601024 7293034)
def lw_Z (below : List Frame) (a : Array Value) (s : State) : State → Prop := fun t => ∃ o, t.status = .running ∧ Ended t below o ∧ lw_Q a s o t
/-- the law's own end, with 1 on the stack, nothing written that was there before, its room as the claim has it; d0: the record of draws at this point (at the entry s.drawn: begin with 'refine W.base ?_' and 'have hd0 := Drawn.sameBut.refl s.drawn lw_cs') -/
theorem lw_ret {p : Program} {l : Launch} {e : Env} {s : State} {m : MethodId} {below : List Frame} {meth : Method} {c : Code} {b : Nat} {d0 : Drawn} (hd0 : s.drawn.sameBut d0 lw_cs) (hx : p.tables.exec = Jvm.exec) (hb : c.code = code) (hr : meth.sig.returnType = ret) (hlocks : meth.locks = false) {pc : Nat} {H : Heap} {ls : Array Slot} (hdg : decode code pc = .ok (.ireturn, 1)) : W p l e room_1 (s.setDrawn d0) m #[Value.ref b] below meth c H [] 601024 7293034 (lw_Z below #[Value.ref b] s) (F0 m pc ls [.int 1]) := by
  intro T hT X
  obtain ⟨fs, hret, hrun, hended, hW, hframe⟩ := X.leave (v := some (.int 1)) (hlocks := hlocks) (fun h => by rw [hr] at h; cases h)
  have hmeth' : T.vm.method? m = some meth := X.method'
  refine ⟨T.setFrames fs, ?_, .returned (some (.int 1)), hrun, hended, rfl, lw_closed hd0 ⟨_, rfl⟩ hW hframe⟩
  jvm_step X.here [X.here.top, hx, hb, hdg, hmeth', hr, ret, narrow_b1]
  (try refine ⟨rfl, ?_⟩); (try refine ⟨rfl, ?_⟩)
  first | (intro acts; rw [hret _ acts rfl rfl rfl]) | rw [hret _ _ rfl rfl rfl]
  exact Steps.refl _
/-- what holds at the law's entry: the machine, the code, the tables' words (any of lw_tbl by 'hts w (by decide +kernel)'), the script of L ints xs at the cell b, what the Statement gives of the start (any of its parts by flat_of_before) -/
def lw_At (p : Program) (s : State) (m : MethodId) (meth : Method) (c : Code) (b L : Nat) (xs : Nat → Int32) : Prop :=
  p.tables.exec = Jvm.exec ∧ c.code = code ∧ meth.sig.returnType = ret ∧ c.maxLocals = 9 ∧ s.vm.findClass R_law = some m.cls ∧ (∀ w ∈ lw_tbl, w.before #[Value.ref b] s = true) ∧ va_X b L xs s s.heap ∧ b < s.heap.size ∧ meth.locks = false ∧ (Jvm.Cond.and given_1 narrow_1).before #[Value.ref b] s = true
section LP
variable {p : Program} {l : Launch} {e : Env} {R : Room} {s : State} {m : MethodId} {args : Array Value} {below : List Frame} {meth : Method} {c : Code} {H : Heap} {locs : List Loc} {cells slots : Nat} {Q : State → Prop}
variable {cc : ByteArray} {pc : Nat} {ls : Array Slot} {γ : xG} {A : Nat → Prop} {rest : List Value}
theorem x_lcmp {x y : Int64} (h : x = y) (hexec : p.tables.exec = Jvm.exec) (hb : c.code = cc) (hdg : decode cc pc = .ok (.lcmp, 1)) (k : W p l e R s m args below meth c H locs cells slots Q (F0 m (pc + 1) ls (.int 0 :: rest))) : W p l e R s m args below meth c H locs cells slots Q (F0 m pc ls (.long y :: .long x :: rest)) := by
  subst h
  intro T hT X
  obtain ⟨t, a, b⟩ := k T hT X
  refine ⟨t, ?_, b⟩
  have hlt : ¬ x < x := Int64.lt_irrefl
  jvm_step X.here [X.here.top, hexec, hb, hdg, hlt]
  exact a
theorem x_sld {H0 : Heap} {b L : Nat} {xs : Nat → Int32} (hx : p.tables.exec = Jvm.exec) (hb : c.code = cc) (hX : va_X b L xs s H0) (hbl : b < H0.size) (hbA : ¬ A b) (hS : va_S A H0 H locs) {i : Int32} (k : Nat) (hi : i = nI k) (hk : k < L) (hL : L < 2 ^ 31) (hdg : decode cc pc = .ok (.iaload, 1))
    (kk : W p l e R s m args below meth c H locs cells slots Q (F0 m (pc + 1) ls (.int (xs k) :: rest))) : W p l e R s m args below meth c H locs cells slots Q (F0 m pc ls (.int i :: .ref b :: rest)) := by
  subst hi
  have e1 : (nI k).toNatClampNeg = k := nI_clamp (by omega)
  refine va_sld hx hb hX hbl hbA hS (vp_in_nI hk hL) hdg ?_
  rw [e1]
  exact kk
end LP
abbrev LW (γ : xG) (q0 q1 a1 q2 a2 q3 a3 q4 o m0 m1 m2 m3 m4 : Nat) (kq ka : Nat → Nat) (n kc : Nat) (td th tn wn : Int32) (f tf wf mt tg tp : xRow) (h : Nat → Int64) (kn : Nat → Int32) : va_W :=
  [xO q0 2 [.ref q1, .ref q4, .int (nI kc), .int td, .ref q2, .ref q3], xO q1 0 [.ref a1, .int (nI n)], xA γ a1 12 f, xO q2 0 [.ref a2, .int tn], xA γ a2 12 tf, xO q3 1 [.ref a3, .int wn], xA γ a3 12 wf, xQ γ q4 6 (fun t9 => some (kq t9)), xL γ o 1 h,
   xO m0 3 [.int th, .int (nI n), .int (nI kc), .int td, .ref m1, .ref m2, .ref m3, .ref m4], xA γ m1 12 f, xA γ m2 12 mt, xA γ m3 72 tg, xA γ m4 14 tp] ++ xKp γ kq ka kn (xGt tg)
/-- how a call ends: at the law's step, with all as it was agreed -/
def xK9 (p : Program) (l : Launch) (e : Env) (s : State) (m : MethodId) (below : List Frame) (meth : Method) (c : Code) (b : Nat) (γ : xG) (A : Nat → Prop) (q0 q1 a1 q2 a2 q3 a3 q4 o m0 m1 m2 m3 m4 : Nat) (kq ka : Nat → Nat) (j i : Nat) : Prop :=
  ∀ (n kc : Nat) (td th tn wn : Int32) (f tf wf mt tg tp : xRow) (h : Nat → Int64) (kn : Nat → Int32) (H : Heap) (locs : List Loc) (d0 : Drawn) (cells slots : Nat) (ls : Array Slot), s.drawn.sameBut d0 lw_cs → xInv j n kc f tg → (∀ t, t < kc → kn t = nI n) →
    xP γ (LW γ q0 q1 a1 q2 a2 q3 a3 q4 o m0 m1 m2 m3 m4 kq ka n kc td th tn wn f tf wf mt tg tp h kn) H → va_D A (LW γ q0 q1 a1 q2 a2 q3 a3 q4 o m0 m1 m2 m3 m4 kq ka n kc td th tn wn f tf wf mt tg tp h kn) → va_S A s.heap H locs → cells ≤ 26 + j → slots ≤ 257 + 17 * j →
    lv_has ls 9 [(0, .ref b), (1, .ref q0), (2, .ref m0), (3, .ref o), (4, .int (nI i))] → W p l e room_1 (s.setDrawn d0) m #[Value.ref b] below meth c H locs cells slots (lw_Z below #[Value.ref b] s) (F0 m 1426 ls [])
theorem xDk {γ : xG} {A : Nat → Prop} {base : va_W} {kq ka : Nat → Nat} {kn : Nat → Int32} {ks ks2 : Nat → xRow} (h : va_D A (base ++ xKp γ kq ka kn ks)) : va_D A (base ++ xKp γ kq ka kn ks2) := by
  have e : (base ++ xKp γ kq ka kn ks2).map Prod.fst = (base ++ xKp γ kq ka kn ks).map Prod.fst := by
    rw [List.map_append, List.map_append]
    rfl
  have at9 : ∀ (i : Nat) (q : Nat × va_E), (base ++ xKp γ kq ka kn ks2)[i]? = some q → ∃ q2, (base ++ xKp γ kq ka kn ks)[i]? = some q2 ∧ q2.1 = q.1 := by
    intro i q hq
    have h1 : ((base ++ xKp γ kq ka kn ks2).map Prod.fst)[i]? = some q.1 := by rw [List.getElem?_map, hq]; rfl
    rw [e, List.getElem?_map] at h1
    cases h2 : (base ++ xKp γ kq ka kn ks)[i]? with
    | none => rw [h2] at h1; cases h1
    | some q2 => rw [h2] at h1; exact ⟨q2, rfl, Option.some.inj h1⟩
  refine ⟨fun i j p q hp hq hpq => ?_, fun i q hq => ?_⟩
  · obtain ⟨p2, a1, a2⟩ := at9 i p hp
    obtain ⟨q2, b1, b2⟩ := at9 j q hq
    exact h.1 i j p2 q2 a1 b1 (by rw [a2, b2, hpq])
  · obtain ⟨q2, b1, b2⟩ := at9 i q hq
    rw [← b2]
    exact h.2 i q2 b1
theorem xFew_ne {n : Nat} {f g : xRow} (hn0 : 3 ≤ n) (hn1 : n ≤ 12) (hf : xBd f) (hg : xBd g) (h : xCB n f g = true) : ¬ xFew n f g = -1 := by
  intro e
  unfold xFew at e
  rw [if_pos h] at e
  have h1 := (xWay_I hn0 hn1 hf hg h).1
  rw [e] at h1
  exact absurd h1 (by decide)
theorem x999 {x : Int32} (h1 : ¬ x < (-999)) (h2 : x ≤ 999) : -210000 ≤ x.toInt ∧ x.toInt ≤ 210000 := by
  rw [Int32.lt_iff_toInt_lt] at h1
  rw [Int32.le_iff_toInt_le] at h2
  have e1 : (-999 : Int32).toInt = -999 := by decide
  have e2 : (999 : Int32).toInt = 999 := by decide
  omega

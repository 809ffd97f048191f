/-! constructors: a contract that adds cells behind its world's own -/
def xNQ (γ : xG) (A : Nat → Prop) (Pw : va_W → Prop) : Array Value → State → Outcome → State → Prop := fun _ st o t =>
  (∃ w1 : va_W, o = .returned none ∧ Pw w1 ∧ xP γ w1 t.heap ∧ va_D A w1) ∧ va_F A st t
def xN (γ : xG) (l : Launch) (y : MethodName) (ws : List Cond) (rm : Room) (av : List Value) (Ex : State → Prop) (wc : va_W) (Pw : va_W → Prop) (mc ms : Nat) : Prop :=
  ∀ sz : Nat, Met l y ws rm (va_Pc av (fun U => U.heap.size = sz ∧ xP γ wc U.heap ∧ xK γ U ∧ va_D (fun _ => True) wc ∧ Ex U)) (xNQ γ (va_A wc sz) Pw) mc ms (va_A wc sz)
theorem xN.of {γ : xG} {l : Launch} {y : MethodName} {ws ws' : List Cond} {rm : Room} {av : List Value} {Ex : State → Prop} {wc : va_W} {Pw : va_W → Prop} {mc ms : Nat} {cc : ByteArray} {maxL : Nat} {ret : Option FieldType}
    (hy : plainName y.cls = true) (hw : ws = Cond.code y cc maxL ret :: ws') (hlen : (lg_sl av).length ≤ maxL)
    (body : ∀ (p : Program) (e : Env) (s : State) (m : MethodId) (below : List Frame) (meth : Method) (c : Code), p.tables.exec = Jvm.exec → c.code = cc → meth.sig.returnType = ret → c.maxLocals = maxL → (∀ w ∈ ws, w.before av.toArray s = true) → s.vm.findClass y.cls = some m.cls → meth.locks = false → meth.name = y.name → xP γ wc s.heap → xK γ s → Ex s → ∀ A : Nat → Prop, (∀ q : Nat, s.heap.size ≤ q → A q) → va_D A wc → ∀ ls : Array Slot, lv_has ls maxL (lv_args 0 av) →
      W p l e rm s m av.toArray below meth c s.heap [] 0 0 (MQ below (xNQ γ A Pw) av.toArray s mc ms A) (F0 m 0 ls [])) : xN γ l y ws rm av Ex wc Pw mc ms := by
  intro sz
  refine Met.ofW (cc := cc) (maxL := maxL) (ret := ret) hy hw ?_
  intro p e s m args below meth c s₁ B hml hv
  obtain ⟨rfl, hsz, hP, hK, hD0, hEx⟩ := hv
  subst hsz
  have hl := lv_entry av (n := maxL) hlen
  rw [lg_entry_eq]
  exact body p e s m below meth c B.exec B.bytes B.returns hml (atoms_spec (ws := ws) B.pre) (findClass_of_methodNamed B.named) B.notSynchronized (name_of_methodNamed B.named B.method).1 hP hK hEx (va_A wc s.heap.size) (fun q h => Or.inr h) (hD0.self (sz := s.heap.size)) _ hl
section N
variable {p : Program} {l : Launch} {e : Env} {R : Room} {s : State} {m : MethodId} {args : Array Value} {below : List Frame} {meth : Method} {c : Code} {H : Heap} {locs : List Loc} {cells slots : Nat} {Q : State → Prop}
variable {cc : ByteArray} {pc : Nat} {ls : Array Slot} {γ : xG} {A : Nat → Prop} {W0 wc wr : va_W} {Pw : va_W → Prop} {mc ms : Nat} {st0 rest As : List Value} {a : Array Value}
theorem xN_v (hx : p.tables.exec = Jvm.exec) (hb : c.code = cc) (hr : meth.sig.returnType = none) (hlocks : meth.locks = false) (hdg : decode cc pc = .ok (.return_, 1)) (hP : xP γ W0 H) (hD : va_D A W0) (hS : va_S A s.heap H locs) (hc : cells ≤ mc) (hs : slots ≤ ms) (hp : Pw W0) : W p l e R s m args below meth c H locs cells slots (MQ below (xNQ γ A Pw) args s mc ms A) (F0 m pc ls []) :=
  W.widen hc hs (W.vret hx hb hr (fun t ht _ => ⟨⟨W0, rfl, hp, by rw [ht]; exact hP, hD⟩, hS.F ht⟩) hS.2.2 hdg hlocks)
theorem xcN {H0 : Heap} {isC isR : List Nat} (hr : va_Run p l e R s m args below meth c H locs cells slots mc ms (F0 m pc ls st0) rest (xNQ γ (va_A wc H.size) Pw a) (va_A wc H.size)) (hP : xP γ W0 H) (hD : va_D A W0) (hS : va_S A H0 H locs) (hA : ∀ q : Nat, H0.size ≤ q → A q) (hC : isC.map (fun i => W0[i]?) = wc.map some) (hR : isR.map (fun i => W0[i]?) = wr.map some) (hn : va_nd isR = true) (hdis : ∀ i ∈ isR, i ∉ isC)
    (kk : ∀ (w1 : va_W) (H1 : Heap) (locs1 : List Loc), Pw w1 → xP γ (wr ++ w1) H1 → va_D A (wr ++ w1) → va_S A H0 H1 locs1 → W p l e R s m args below meth c H1 locs1 (cells + mc) (slots + ms) Q (F0 m (pc + 3) ls rest)) : W p l e R s m args below meth c H locs cells slots Q (F0 m pc ls st0) := by
  intro T hT X
  obtain ⟨v, st₀, t, T', L, h0, X', hL, e1, e2, ⟨⟨w1, hv, hp, hP1, hD1⟩, hz, hk⟩, st⟩ := hr T hT X
  cases hv
  rw [h0] at hz hk
  have hF := va_free (wc := wc) hD hS hA isC hC
  obtain ⟨hP2, hD2⟩ := va_join hP hD isC isR hC hR hn hdis (fun q h1 h2 => hk q h1 h2) hF hP1 hD1
  obtain ⟨t2, a1, b1⟩ := kk w1 T'.heap (locs ++ L) hp (by rw [e1]; exact hP2) hD2
    ⟨Nat.le_trans hS.1 (by rw [e1]; exact hz), fun q h1 h2 => by rw [e1, hk q (Nat.lt_of_lt_of_le h1 hS.1) (fun z => h2 (hF q z))]; exact hS.2.1 q h1 h2, fun q hq => by
      rcases List.mem_append.mp hq with h | h
      · exact hS.2.2 q h
      · exact hF _ (hL q h)⟩ T' rfl X'
  exact ⟨t2, st t2 a1, b1⟩
/-- a call of a constructor (of a nest-mate) on the object at place q0, which is all that it is given -/
theorem xIN {H0 : Heap} {y : MethodName} {bytes : ByteArray} {maxL nL index : Nat} {ws Ts : List Cond} {rm : Room} {own host : String} {b : Addr} {isC isR : List Nat}
    (S : CallFix p m c cc nL s args Ts own) (hM : xN γ l y ws rm [.ref b] (fun _ => True) wc Pw mc ms) (cw : va_CN R s args own index y host bytes maxL none ws rm mc ms 0) (hy : y.name = "<init>") (hi : (Cond.instanceMethod y).before args s = true) (hK : xK γ s) (hP : xP γ W0 H) (hD : va_D A W0) (hS : va_S A H0 H locs) (hA : ∀ q : Nat, H0.size ≤ q → A q)
    (hC : isC.map (fun i => W0[i]?) = wc.map some) (hnc : va_nd isC = true) (hR : isR.map (fun i => W0[i]?) = wr.map some) (hn : va_nd isR = true) (hdis : ∀ i ∈ isR, i ∉ isC) (hl : ls.size = nL) (hst : st0 = .ref b :: rest) (hW : (rest.map fun v => v.category).sum ≤ 8) (hdg : decode cc pc = .ok (.invokespecial index, 3)) (hcs : cells + mc ≤ R.cells ∧ slots + ms ≤ R.slots)
    (kk : ∀ (w1 : va_W) (H1 : Heap) (locs1 : List Loc), Pw w1 → xP γ (wr ++ w1) H1 → va_D A (wr ++ w1) → va_S A H0 H1 locs1 → W p l e R s m args below meth c H1 locs1 (cells + mc) (slots + ms) Q (F0 m (pc + 3) ls rest)) : W p l e R s m args below meth c H locs cells slots Q (F0 m pc ls st0) := by
  subst hst
  have hPc : xP γ wc H := fun k q hq => by
    have h1 : (isC.map (fun i => W0[i]?))[k]? = some (some q) := by rw [hC, List.getElem?_map, hq]; rfl
    rw [List.getElem?_map] at h1
    cases hi : isC[k]? with
    | none => rw [hi] at h1; cases h1
    | some i => rw [hi] at h1; exact hP i q (Option.some.inj h1)
  refine xcN (va_runIN (As := []) (rest := rest) S (hM H.size) ⟨cw, hy, hi⟩ ⟨?_, ?_⟩ rfl rfl hl rfl (lv_room hW) hdg hcs) hP hD hS hA hC hR hn hdis kk
  · exact fun a U g mk q => ⟨q.1, q.2.1, q.2.2.1, va_K.moved (u := U) (U := U.calling g mk a) (Vm.Alike.refl U.vm) q.2.2.2.1, q.2.2.2.2.1, trivial⟩
  · exact fun U hU hW => ⟨rfl, by rw [hU], by rw [hU]; exact hPc, va_K.moved hW.alike hK, (hD.sub isC hnc hC).weaken (fun _ _ _ _ => trivial), trivial⟩
theorem x_astq {H0 : Heap} {b v n : Nat} {vs : List Value} {f : Nat → Option Nat} (hx : p.tables.exec = Jvm.exec) (hb : c.code = cc) (hK : xK γ s) (hP : xP γ W0 H) (hD : va_D A W0) (hS : va_S A H0 H locs) (q0 qk : Nat) (ha : W0[q0]? = some (xQ γ b n f)) (hv : W0[qk]? = some (xO v 0 vs)) {i : Int32} (k : Nat) (hi : i = nI k) (hk : k < n) (hn : n < 2 ^ 31) (hdg : decode cc pc = .ok (.aastore, 1))
    (kk : ∀ (H1 : Heap) (locs1 : List Loc), xP γ (W0.set q0 (xQ γ b n (va_up f k (some v)))) H1 → va_D A (W0.set q0 (xQ γ b n (va_up f k (some v)))) → va_S A H0 H1 locs1 → W p l e R s m args below meth c H1 locs1 cells slots Q (F0 m (pc + 1) ls rest)) : W p l e R s m args below meth c H locs cells slots Q (F0 m pc ls (.ref v :: .int i :: .ref b :: rest)) := by
  subst hi
  have e1 : (nI k).toNatClampNeg = k := nI_clamp (by omega)
  refine va_astq hx hb hK hP hD hS q0 1 qk 0 ha rfl hv rfl (vp_in_nI hk hn) hdg ?_
  rw [e1]
  exact kk
end N
def xsx (a b c d e f : Nat) : Nat → Nat := fun t => match t with
  | 0 => a | 1 => b | 2 => c | 3 => d | 4 => e | _ => f
/-- a row of references by another that agrees with it on its places -/
theorem xQ_cell {γ : xG} {n : Nat} {f g : Nat → Option Nat} (h : ∀ i, i < n → f i = g i) : (vp_cell γ.2.2.1 (n, .inr (.inr (.inr (.inr f)))) : Cell) = vp_cell γ.2.2.1 (n, .inr (.inr (.inr (.inr g)))) := by
  show arrV _ n (fun j => va_rf (f j)) = arrV _ n (fun j => va_rf (g j))
  unfold arrV
  have e2 : (fun j : Fin n => va_rf (f j.val)) = fun j : Fin n => va_rf (g j.val) := by
    funext j
    rw [h j.val j.isLt]
  rw [e2]
theorem xQ_row {γ : xG} {W0 : va_W} {H : Heap} (hP : xP γ W0 H) (i : Nat) {q n : Nat} {f : Nat → Option Nat} (hi : W0[i]? = some (xQ γ q n f)) (g : Nat → Option Nat) (h : ∀ j, j < n → f j = g j) : xP γ (W0.set i (xQ γ q n g)) H := by
  intro k z hz
  by_cases e : i = k
  · subst e
    have hlt : i < W0.length := (List.getElem?_eq_some_iff.mp hi).1
    rw [List.getElem?_set_self hlt] at hz
    cases hz
    have h1 : H[q]? = some (vp_cell γ.2.2.1 (n, .inr (.inr (.inr (.inr f))))) := hP i _ hi
    show H[q]? = some (vp_cell γ.2.2.1 (n, .inr (.inr (.inr (.inr g)))))
    rw [h1, xQ_cell h]
  · rw [List.getElem?_set_ne e] at hz
    exact hP k z hz

/-! a method that may draw: over the start with some record of draws -/
def xMD (γ : xG) (l : Launch) (y : MethodName) (ws : List Cond) (rm : Room) (av : List Value) (wc : va_W) (Pw : Option Value → va_W → Prop) (mc ms : Nat) : Prop :=
  ∀ sz : Nat, MetD lw_cs l y ws rm (va_Pc av (fun U => U.heap.size = sz ∧ xP γ wc U.heap ∧ xK γ U ∧ va_D (fun _ => True) wc)) (xMQ γ (wc.map Prod.fst) (va_A wc sz) Pw) mc ms (va_A wc sz)
theorem xMD.of {γ : xG} {l : Launch} {y : MethodName} {ws ws' : List Cond} {rm : Room} {av : List Value} {wc : va_W} {Pw : Option Value → va_W → Prop} {mc ms : Nat} {cc : ByteArray} {maxL : Nat} {ret : Option FieldType}
    (hy : plainName y.cls = true) (hw : ws = Cond.code y cc maxL ret :: ws') (hlen : (lg_sl av).length ≤ maxL)
    (body : ∀ (p : Program) (e : Env) (s : State) (m : MethodId) (below : List Frame) (meth : Method) (c : Code), p.tables.exec = Jvm.exec → c.code = cc → meth.sig.returnType = ret → c.maxLocals = maxL → (∀ w ∈ ws, w.before av.toArray s = true) → s.vm.findClass y.cls = some m.cls → meth.locks = false → meth.name = y.name → xP γ wc s.heap → xK γ s → ∀ A : Nat → Prop, (∀ q : Nat, s.heap.size ≤ q → A q) → va_D A wc → ∀ ls : Array Slot, lv_has ls maxL (lv_args 0 av) →
      W p l e rm s m av.toArray below meth c s.heap [] 0 0 (MQD lw_cs below (xMQ γ (wc.map Prod.fst) A Pw) av.toArray s mc ms A) (F0 m 0 ls [])) : xMD γ l y ws rm av wc Pw mc ms := by
  intro sz
  refine MetD.ofW (cc := cc) (maxL := maxL) (ret := ret) hy hw ?_
  intro p e s m args below meth c s₁ B hml hv hd0
  obtain ⟨rfl, hsz, hP, hK, hD0⟩ := hv
  subst hsz
  have hl := lv_entry av (n := maxL) hlen
  rw [lg_entry_eq]
  exact body p e s m below meth c B.exec B.bytes B.returns hml (atoms_spec (ws := ws) B.pre) (findClass_of_methodNamed B.named) B.notSynchronized (name_of_methodNamed B.named B.method).1 hP hK (va_A wc s.heap.size) (fun q h => Or.inr h) (hD0.self (sz := s.heap.size)) _ hl
section D
variable {p : Program} {l : Launch} {e : Env} {R : Room} {s : State} {m : MethodId} {args : Array Value} {below : List Frame} {meth : Method} {c : Code} {H : Heap} {locs : List Loc} {cells slots : Nat} {Q : State → Prop}
variable {cc : ByteArray} {pc : Nat} {ls : Array Slot} {γ : xG} {A : Nat → Prop} {W0 wc : va_W} {Pw : Option Value → va_W → Prop} {fs : List Nat} {mc ms : Nat} {st0 rest As : List Value} {a : Array Value} {y : MethodName} {bytes : ByteArray} {maxL nL index n : Nat} {ret : Option FieldType} {ws Ts : List Cond} {rm : Room} {own : String} {d0 : Drawn} {b : Addr}
theorem xM_d {x : UInt64} (hx : p.tables.exec = Jvm.exec) (hb : c.code = cc) (hr : meth.sig.returnType = some .double) (hlocks : meth.locks = false) (hdg : decode cc pc = .ok (.dreturn, 1)) (hP : xP γ W0 H) (hf : W0.map Prod.fst = fs) (hS : va_S A s.heap H locs) (hc : cells ≤ mc) (hs : slots ≤ ms) (hp : Pw (some (.double x)) W0) : W p l e R s m args below meth c H locs cells slots (MQ below (xMQ γ fs A Pw) args s mc ms A) (F0 m pc ls [.double x]) :=
  W.widen hc hs (W.dret hx hb hr (fun t ht _ => ⟨⟨_, W0, rfl, hp, hf, by rw [ht]; exact hP⟩, hS.F ht⟩) hS.2.2 hdg hlocks)
theorem xcMD {H0 : Heap} {is : List Nat} (hd0 : s.drawn.sameBut d0 lw_cs) (hr : va_RunD lw_cs p l e R (s.setDrawn d0) m args below meth c H locs cells slots mc ms (F0 m pc ls st0) rest (xMQ γ (wc.map Prod.fst) (va_A wc H.size) Pw a) (va_A wc H.size)) (hP : xP γ W0 H) (hD : va_D A W0) (hS : va_S A H0 H locs) (hA : ∀ q : Nat, H0.size ≤ q → A q) (hC : is.map (fun i => W0[i]?) = wc.map some)
    (kk : ∀ (r : Option Value) (w1 : va_W) (H1 : Heap) (locs1 : List Loc), Pw r w1 → xP γ (xup W0 is w1) H1 → va_D A (xup W0 is w1) → va_S A H0 H1 locs1 → ∀ d1 : Drawn, s.drawn.sameBut d1 lw_cs → W p l e R (s.setDrawn d1) m args below meth c H1 locs1 (cells + mc) (slots + ms) Q (F0 m (pc + 3) ls (r.toList ++ rest))) : W p l e R (s.setDrawn d0) m args below meth c H locs cells slots Q (F0 m pc ls st0) := by
  intro T hT X
  obtain ⟨v, st₀, t, T', L, d1, hd1, h0, X', hL, e1, e2, ⟨⟨r, w1, hv, hp, hfs, hP1⟩, hz, hk⟩, st⟩ := hr T hT X
  cases hv
  rw [h0] at hz hk
  have hF := va_free (wc := wc) hD hS hA is hC
  obtain ⟨hP2, hD2⟩ := xjoin hP hD hC hfs (fun q h1 h2 => hk q h1 h2) hP1
  obtain ⟨t2, a1, b1⟩ := kk v w1 T'.heap (locs ++ L) hp (by rw [e1]; exact hP2) hD2
    ⟨Nat.le_trans hS.1 (by rw [e1]; exact hz), fun q h1 h2 => by rw [e1, hk q (Nat.lt_of_lt_of_le h1 hS.1) (fun z => h2 (hF q z))]; exact hS.2.1 q h1 h2, fun q hq => by
      rcases List.mem_append.mp hq with h | h
      · exact hS.2.2 q h
      · exact hF _ (hL q h)⟩ d1 (hd0.trans hd1) T' rfl X'
  exact ⟨t2, st t2 a1, b1⟩
theorem xVMD {q0 ci : Nat} {fv : List Value} {qc : vw_C} {H0 : Heap} (hd0 : s.drawn.sameBut d0 lw_cs) (S : CallFix p m c cc nL (s.setDrawn d0) args Ts own) (hM : xMD γ l y ws rm (.ref b :: As) wc Pw mc ms) (cw : CallW R (s.setDrawn d0) args own qc.1 index y bytes maxL ret ws rm mc ms n) (hK : xK γ (s.setDrawn d0)) (hP : xP γ W0 H) (hD : va_D A W0) (hS : va_S A H0 H locs) (hA : ∀ q : Nat, H0.size ≤ q → A q) (is : List Nat) (hnd : va_nd is = true) (hC : is.map (fun i => W0[i]?) = wc.map some) (he : W0[q0]? = some (b, .inr (ci, fv))) (hc : vwCl[ci]? = some qc) (hn : As.length = n) (hl : ls.size = nL) (hst : st0 = As.reverse ++ .ref b :: rest) (hW : (rest.map fun v => v.category).sum ≤ 8) (hdg : decode cc pc = .ok (.invokevirtual index, 3)) (hcs : cells + mc ≤ R.cells ∧ slots + ms ≤ R.slots)
    (kk : ∀ (r : Option Value) (w1 : va_W) (H1 : Heap) (locs1 : List Loc), Pw r w1 → xP γ (xup W0 is w1) H1 → va_D A (xup W0 is w1) → va_S A H0 H1 locs1 → ∀ d1 : Drawn, s.drawn.sameBut d1 lw_cs → W p l e R (s.setDrawn d1) m args below meth c H1 locs1 (cells + mc) (slots + ms) Q (F0 m (pc + 3) ls (r.toList ++ rest))) : W p l e R (s.setDrawn d0) m args below meth c H locs cells slots Q (F0 m pc ls st0) := by
  have hPc : xP γ wc H := fun k q hq => by
    have h1 : (is.map (fun i => W0[i]?))[k]? = some (some q) := by rw [hC, List.getElem?_map, hq]; rfl
    rw [List.getElem?_map] at h1
    cases hi : is[k]? with
    | none => rw [hi] at h1; cases h1
    | some i => rw [hi] at h1; exact hP i q (Option.some.inj h1)
  exact xcMD hd0 (va_runV_D (As := As) (rest := rest) S (hM H.size) cw ⟨xM_blind, va_recv hK hP hc he, fun U hU hW => ⟨rfl, by rw [hU], by rw [hU]; exact hPc, va_K.moved hW.alike hK, (hD.sub is hnd hC).weaken (fun _ _ _ _ => trivial)⟩⟩ rfl hn hl hst (lv_room hW) hdg hcs) hP hD hS hA hC kk
end D

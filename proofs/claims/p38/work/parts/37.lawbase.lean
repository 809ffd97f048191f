/-! what the law's methods are given: a whole world; they give another back -/
def xGQ (γ : xG) (A : Nat → Prop) (Pw : Option Value → va_W → Prop) : Array Value → State → Outcome → State → Prop := fun _ st o t =>
  (∃ (r : Option Value) (w1 : va_W), o = .returned r ∧ Pw r w1 ∧ xP γ w1 t.heap ∧ va_D A w1) ∧ va_F A st t
def xGG (γ : xG) (l : Launch) (y : MethodName) (ws : List Cond) (rm : Room) (av : List Value) (Ex : State → Prop) (wc : va_W) (Pw : Option Value → va_W → Prop) (mc ms : Nat) : Prop :=
  ∀ sz : Nat, Met l y ws rm (va_Pc av (fun U => U.heap.size = sz ∧ xP γ wc U.heap ∧ xK γ U ∧ va_D (fun _ => True) wc ∧ Ex U)) (xGQ γ (va_A wc sz) Pw) mc ms (va_A wc sz)
def xGD (γ : xG) (l : Launch) (y : MethodName) (ws : List Cond) (rm : Room) (av : List Value) (Ex : State → Prop) (wc : va_W) (Pw : Option Value → va_W → Prop) (mc ms : Nat) : Prop :=
  ∀ sz : Nat, MetD lw_cs l y ws rm (va_Pc av (fun U => U.heap.size = sz ∧ xP γ wc U.heap ∧ xK γ U ∧ va_D (fun _ => True) wc ∧ Ex U)) (xGQ γ (va_A wc sz) Pw) mc ms (va_A wc sz)
theorem xGG.of {γ : xG} {l : Launch} {y : MethodName} {ws ws' : List Cond} {rm : Room} {av : List Value} {Ex : State → Prop} {wc : va_W} {Pw : Option Value → va_W → Prop} {mc ms : Nat} {cc : ByteArray} {maxL : Nat} {ret : Option FieldType}
    (hy : plainName y.cls = true) (hw : ws = Cond.code y cc maxL ret :: ws') (hlen : (lg_sl av).length ≤ maxL)
    (body : ∀ (p : Program) (e : Env) (s : State) (m : MethodId) (below : List Frame) (meth : Method) (c : Code), p.tables.exec = Jvm.exec → c.code = cc → meth.sig.returnType = ret → c.maxLocals = maxL → (∀ w ∈ ws, w.before av.toArray s = true) → s.vm.findClass y.cls = some m.cls → meth.locks = false → xP γ wc s.heap → xK γ s → Ex s → ∀ A : Nat → Prop, (∀ q : Nat, s.heap.size ≤ q → A q) → (∀ q : Nat, A q → va_A wc s.heap.size q) → va_D A wc → ∀ ls : Array Slot, lv_has ls maxL (lv_args 0 av) →
      W p l e rm s m av.toArray below meth c s.heap [] 0 0 (MQ below (xGQ γ A Pw) av.toArray s mc ms A) (F0 m 0 ls [])) : xGG γ l y ws rm av Ex wc Pw mc ms := by
  intro sz
  refine Met.ofW (cc := cc) (maxL := maxL) (ret := ret) hy hw ?_
  intro p e s m args below meth c s₁ B hml hv
  obtain ⟨rfl, hsz, hP, hK, hD0, hEx⟩ := hv
  subst hsz
  have hl := lv_entry av (n := maxL) hlen
  rw [lg_entry_eq]
  exact body p e s m below meth c B.exec B.bytes B.returns hml (atoms_spec (ws := ws) B.pre) (findClass_of_methodNamed B.named) B.notSynchronized hP hK hEx (va_A wc s.heap.size) (fun q h => Or.inr h) (fun q h => h) (hD0.self (sz := s.heap.size)) _ hl
theorem xGG.ofH {γ : xG} {l : Launch} {y : MethodName} {ws ws' : List Cond} {rm : Room} {av : List Value} {Ex : State → Prop} {wc : va_W} {Pw : Option Value → va_W → Prop} {mc ms : Nat} {cc : ByteArray} {maxL : Nat} {ret : Option FieldType} {hh : List (Nat × Nat × Nat × Nat)}
    (hy : plainName y.cls = true) (hw : ws = Cond.codeWith y cc maxL ret hh :: ws') (hlen : (lg_sl av).length ≤ maxL)
    (body : ∀ (p : Program) (e : Env) (s : State) (m : MethodId) (below : List Frame) (meth : Method) (c : Code), p.tables.exec = Jvm.exec → c.code = cc → meth.sig.returnType = ret → c.maxLocals = maxL → (∀ w ∈ ws, w.before av.toArray s = true) → s.vm.findClass y.cls = some m.cls → meth.locks = false → c.exceptionTable.toList = tableOf hh → xP γ wc s.heap → xK γ s → Ex s → ∀ A : Nat → Prop, (∀ q : Nat, s.heap.size ≤ q → A q) → (∀ q : Nat, A q → va_A wc s.heap.size q) → va_D A wc → ∀ ls : Array Slot, lv_has ls maxL (lv_args 0 av) →
      W p l e rm s m av.toArray below meth c s.heap [] 0 0 (MQ below (xGQ γ A Pw) av.toArray s mc ms A) (F0 m 0 ls [])) : xGG γ l y ws rm av Ex wc Pw mc ms := by
  intro sz
  refine va_MetW (cc := cc) (maxL := maxL) (ret := ret) (hh := hh) hy hw ?_
  intro p e s m args below meth c s₁ B hml hv
  obtain ⟨rfl, hsz, hP, hK, hD0, hEx⟩ := hv
  subst hsz
  have hl := lv_entry av (n := maxL) hlen
  rw [lg_entry_eq]
  have hts := atoms_spec (ws := ws) B.pre
  exact body p e s m below meth c B.exec B.bytes B.returns hml hts (findClass_of_methodNamed B.named) B.notSynchronized (vx_table (x := y) B (hts _ (by rw [hw]; exact List.mem_cons_self))) hP hK hEx (va_A wc s.heap.size) (fun q h => Or.inr h) (fun q h => h) (hD0.self (sz := s.heap.size)) _ hl
theorem xGD.of {γ : xG} {l : Launch} {y : MethodName} {ws ws' : List Cond} {rm : Room} {av : List Value} {Ex : State → Prop} {wc : va_W} {Pw : Option Value → va_W → Prop} {mc ms : Nat} {cc : ByteArray} {maxL : Nat} {ret : Option FieldType}
    (hy : plainName y.cls = true) (hw : ws = Cond.code y cc maxL ret :: ws') (hlen : (lg_sl av).length ≤ maxL)
    (body : ∀ (p : Program) (e : Env) (s : State) (m : MethodId) (below : List Frame) (meth : Method) (c : Code), p.tables.exec = Jvm.exec → c.code = cc → meth.sig.returnType = ret → c.maxLocals = maxL → (∀ w ∈ ws, w.before av.toArray s = true) → s.vm.findClass y.cls = some m.cls → meth.locks = false → xP γ wc s.heap → xK γ s → Ex s → ∀ A : Nat → Prop, (∀ q : Nat, s.heap.size ≤ q → A q) → va_D A wc → ∀ ls : Array Slot, lv_has ls maxL (lv_args 0 av) →
      W p l e rm s m av.toArray below meth c s.heap [] 0 0 (MQD lw_cs below (xGQ γ A Pw) av.toArray s mc ms A) (F0 m 0 ls [])) : xGD γ l y ws rm av Ex wc Pw mc ms := by
  intro sz
  refine MetD.ofW (cc := cc) (maxL := maxL) (ret := ret) hy hw ?_
  intro p e s m args below meth c s₁ B hml hv hd0
  obtain ⟨rfl, hsz, hP, hK, hD0, hEx⟩ := hv
  subst hsz
  have hl := lv_entry av (n := maxL) hlen
  rw [lg_entry_eq]
  exact body p e s m below meth c B.exec B.bytes B.returns hml (atoms_spec (ws := ws) B.pre) (findClass_of_methodNamed B.named) B.notSynchronized hP hK hEx (va_A wc s.heap.size) (fun q h => Or.inr h) (hD0.self (sz := s.heap.size)) _ hl
section GG
variable {p : Program} {l : Launch} {e : Env} {R : Room} {s : State} {m : MethodId} {args : Array Value} {below : List Frame} {meth : Method} {c : Code} {H : Heap} {locs : List Loc} {cells slots : Nat} {Q : State → Prop}
variable {cc : ByteArray} {pc : Nat} {ls : Array Slot} {γ : xG} {A : Nat → Prop} {W0 wc : va_W} {Pw : Option Value → va_W → Prop} {mc ms : Nat} {st0 rest As : List Value} {a : Array Value} {Ex : State → Prop} {y : MethodName} {bytes : ByteArray} {maxL nL index n : Nat} {ret : Option FieldType} {hh : List (Nat × Nat × Nat × Nat)} {ws Ts : List Cond} {rm : Room} {own : String} {b : Addr} {d0 : Drawn}
theorem xG_z {x : Int32} (hx : p.tables.exec = Jvm.exec) (hb : c.code = cc) (hr : meth.sig.returnType = some .boolean) (hlocks : meth.locks = false) (hdg : decode cc pc = .ok (.ireturn, 1)) (hz : x = 0 ∨ x = 1) (hP : xP γ W0 H) (hD : va_D A W0) (hS : va_S A s.heap H locs) (hc : cells ≤ mc) (hs : slots ≤ ms) (hp : Pw (some (.int x)) W0) : W p l e R s m args below meth c H locs cells slots (MQ below (xGQ γ A Pw) args s mc ms A) (F0 m pc ls [.int x]) :=
  W.widen hc hs (W.zret hx hb hr (by rcases hz with h | h <;> rw [h] <;> rfl) (fun t ht _ => ⟨⟨_, W0, rfl, hp, by rw [ht]; exact hP, hD⟩, hS.F ht⟩) hS.2.2 hdg hlocks)
theorem xG_a {x : Nat} {rt : FieldType} (hx : p.tables.exec = Jvm.exec) (hb : c.code = cc) (hr : meth.sig.returnType = some rt) (hrt : (∃ n, rt = .object n) ∨ ∃ t, rt = .array t) (hlocks : meth.locks = false) (hdg : decode cc pc = .ok (.areturn, 1)) (hP : xP γ W0 H) (hD : va_D A W0) (hS : va_S A s.heap H locs) (hc : cells ≤ mc) (hs : slots ≤ ms) (hp : Pw (some (.ref x)) W0) : W p l e R s m args below meth c H locs cells slots (MQ below (xGQ γ A Pw) args s mc ms A) (F0 m pc ls [.ref x]) :=
  W.widen hc hs (W.aret hx hb hr hrt (Or.inr ⟨_, rfl⟩) (fun t ht _ => ⟨⟨_, W0, rfl, hp, by rw [ht]; exact hP, hD⟩, hS.F ht⟩) hS.2.2 hdg hlocks)
theorem xcG {H0 : Heap} (hr : va_Run p l e R s m args below meth c H locs cells slots mc ms (F0 m pc ls st0) rest (xGQ γ (va_A W0 H.size) Pw a) (va_A W0 H.size)) (hD : va_D A W0) (hS : va_S A H0 H locs) (hA : ∀ q : Nat, H0.size ≤ q → A q)
    (kk : ∀ (r : Option Value) (w1 : va_W) (H1 : Heap) (locs1 : List Loc), Pw r w1 → xP γ w1 H1 → va_D A w1 → va_S A H0 H1 locs1 → W p l e R s m args below meth c H1 locs1 (cells + mc) (slots + ms) Q (F0 m (pc + 3) ls (r.toList ++ rest))) : W p l e R s m args below meth c H locs cells slots Q (F0 m pc ls st0) := by
  intro T hT X
  obtain ⟨v, st₀, t, T', L, h0, X', hL, e1, e2, ⟨⟨r, w1, hv, hp, hP1, hD1⟩, hz, hk⟩, st⟩ := hr T hT X
  cases hv
  rw [h0] at hz hk
  have hF : ∀ q, va_A W0 H.size q → A q := fun q h => by
    rcases h with ⟨k, e, h⟩ | h
    · exact hD.2 k (q, e) h
    · exact hA q (Nat.le_trans hS.1 h)
  obtain ⟨t2, a1, b1⟩ := kk v w1 T'.heap (locs ++ L) hp (by rw [e1]; exact hP1) (hD1.weaken (fun k q _ h => hF q.1 h))
    ⟨Nat.le_trans hS.1 (by rw [e1]; exact hz), fun q h1 h2 => by rw [e1, hk q (Nat.lt_of_lt_of_le h1 hS.1) (fun z => h2 (hF q z))]; exact hS.2.1 q h1 h2, fun q hq => by
      rcases List.mem_append.mp hq with h | h
      · exact hS.2.2 q h
      · exact hF _ (hL q h)⟩ T' rfl X'
  exact ⟨t2, st t2 a1, b1⟩
theorem xGG_blind {av : List Value} {sz : Nat} (hEb : ∀ (a : Array Value) (U : State) (g : JFrame) (mk : MethodId), Ex U → Ex (U.calling g mk a)) : FrameBlind (va_Pc av (fun U => U.heap.size = sz ∧ xP γ wc U.heap ∧ xK γ U ∧ va_D (fun _ => True) wc ∧ Ex U)) :=
  fun a U g mk q => ⟨q.1, q.2.1, q.2.2.1, va_K.moved (u := U) (U := U.calling g mk a) (Vm.Alike.refl U.vm) q.2.2.2.1, q.2.2.2.2.1, hEb a U g mk q.2.2.2.2.2⟩
theorem xSG {H0 : Heap} (S : CallFix p m c cc nL s args Ts own) (hM : xGG γ l y ws rm As Ex W0 Pw mc ms) (cw : CallB R s args own index y bytes maxL ret ws rm mc ms n ∧ (Cond.static y).before args s = true) (hEb : ∀ (a : Array Value) (U : State) (g : JFrame) (mk : MethodId), Ex U → Ex (U.calling g mk a)) (hEx : ∀ U : State, U.heap = H → s.WarmedH U.vm → Ex U) (hK : xK γ s) (hP : xP γ W0 H) (hD : va_D A W0) (hS : va_S A H0 H locs) (hA : ∀ q : Nat, H0.size ≤ q → A q) (hn : As.length = n) (hl : ls.size = nL) (hst : st0 = As.reverse ++ rest) (hW : (rest.map fun v => v.category).sum ≤ 8) (hdg : decode cc pc = .ok (.invokestatic index, 3)) (hcs : cells + mc ≤ R.cells ∧ slots + ms ≤ R.slots)
    (kk : ∀ (r : Option Value) (w1 : va_W) (H1 : Heap) (locs1 : List Loc), Pw r w1 → xP γ w1 H1 → va_D A w1 → va_S A H0 H1 locs1 → W p l e R s m args below meth c H1 locs1 (cells + mc) (slots + ms) Q (F0 m (pc + 3) ls (r.toList ++ rest))) : W p l e R s m args below meth c H locs cells slots Q (F0 m pc ls st0) :=
  xcG (va_runS (As := As) (rest := rest) S (hM H.size) cw ⟨xGG_blind hEb, fun U hU hW => ⟨rfl, by rw [hU], by rw [hU]; exact hP, va_K.moved hW.alike hK, hD.weaken (fun _ _ _ _ => trivial), hEx U hU hW⟩⟩ rfl hn hl hst (lv_room hW) hdg hcs) hD hS hA kk
theorem xSGH {H0 : Heap} (S : CallFix p m c cc nL s args Ts own) (hM : xGG γ l y ws rm As Ex W0 Pw mc ms) (cw : vx_CSW R s args own index y bytes maxL ret hh ws rm mc ms n) (hEb : ∀ (a : Array Value) (U : State) (g : JFrame) (mk : MethodId), Ex U → Ex (U.calling g mk a)) (hEx : ∀ U : State, U.heap = H → s.WarmedH U.vm → Ex U) (hK : xK γ s) (hP : xP γ W0 H) (hD : va_D A W0) (hS : va_S A H0 H locs) (hA : ∀ q : Nat, H0.size ≤ q → A q) (hn : As.length = n) (hl : ls.size = nL) (hst : st0 = As.reverse ++ rest) (hW : (rest.map fun v => v.category).sum ≤ 8) (hdg : decode cc pc = .ok (.invokestatic index, 3)) (hcs : cells + mc ≤ R.cells ∧ slots + ms ≤ R.slots)
    (kk : ∀ (r : Option Value) (w1 : va_W) (H1 : Heap) (locs1 : List Loc), Pw r w1 → xP γ w1 H1 → va_D A w1 → va_S A H0 H1 locs1 → W p l e R s m args below meth c H1 locs1 (cells + mc) (slots + ms) Q (F0 m (pc + 3) ls (r.toList ++ rest))) : W p l e R s m args below meth c H locs cells slots Q (F0 m pc ls st0) :=
  xcG (vx_runSW (As := As) (rest := rest) S (hM H.size) cw ⟨xGG_blind hEb, fun U hU hW => ⟨rfl, by rw [hU], by rw [hU]; exact hP, va_K.moved hW.alike hK, hD.weaken (fun _ _ _ _ => trivial), hEx U hU hW⟩⟩ rfl hn hl hst (lv_room hW) hdg hcs) hD hS hA kk
theorem xcGD {H0 : Heap} (hd0 : s.drawn.sameBut d0 lw_cs) (hr : va_RunD lw_cs p l e R (s.setDrawn d0) m args below meth c H locs cells slots mc ms (F0 m pc ls st0) rest (xGQ γ (va_A W0 H.size) Pw a) (va_A W0 H.size)) (hD : va_D A W0) (hS : va_S A H0 H locs) (hA : ∀ q : Nat, H0.size ≤ q → A q)
    (kk : ∀ (r : Option Value) (w1 : va_W) (H1 : Heap) (locs1 : List Loc), Pw r w1 → xP γ w1 H1 → va_D A w1 → va_S A H0 H1 locs1 → ∀ d1 : Drawn, s.drawn.sameBut d1 lw_cs → W p l e R (s.setDrawn d1) m args below meth c H1 locs1 (cells + mc) (slots + ms) Q (F0 m (pc + 3) ls (r.toList ++ rest))) : W p l e R (s.setDrawn d0) m args below meth c H locs cells slots Q (F0 m pc ls st0) := by
  intro T hT X
  obtain ⟨v, st₀, t, T', L, d1, hd1, h0, X', hL, e1, e2, ⟨⟨r, w1, hv, hp, hP1, hD1⟩, hz, hk⟩, st⟩ := hr T hT X
  cases hv
  rw [h0] at hz hk
  have hF : ∀ q, va_A W0 H.size q → A q := fun q h => by
    rcases h with ⟨k, e, h⟩ | h
    · exact hD.2 k (q, e) h
    · exact hA q (Nat.le_trans hS.1 h)
  obtain ⟨t2, a1, b1⟩ := kk v w1 T'.heap (locs ++ L) hp (by rw [e1]; exact hP1) (hD1.weaken (fun k q _ h => hF q.1 h))
    ⟨Nat.le_trans hS.1 (by rw [e1]; exact hz), fun q h1 h2 => by rw [e1, hk q (Nat.lt_of_lt_of_le h1 hS.1) (fun z => h2 (hF q z))]; exact hS.2.1 q h1 h2, fun q hq => by
      rcases List.mem_append.mp hq with h | h
      · exact hS.2.2 q h
      · exact hF _ (hL q h)⟩ d1 (hd0.trans hd1) T' rfl X'
  exact ⟨t2, st t2 a1, b1⟩
theorem xVGD {q0 ci : Nat} {fv : List Value} {qc : vw_C} {H0 : Heap} (hd0 : s.drawn.sameBut d0 lw_cs) (S : CallFix p m c cc nL (s.setDrawn d0) args Ts own) (hM : xGD γ l y ws rm (.ref b :: As) (fun _ => True) W0 Pw mc ms) (cw : CallW R (s.setDrawn d0) args own qc.1 index y bytes maxL ret ws rm mc ms n) (hK : xK γ (s.setDrawn d0)) (hP : xP γ W0 H) (hD : va_D A W0) (hS : va_S A H0 H locs) (hA : ∀ q : Nat, H0.size ≤ q → A q) (he : W0[q0]? = some (b, .inr (ci, fv))) (hc : vwCl[ci]? = some qc) (hn : As.length = n) (hl : ls.size = nL) (hst : st0 = As.reverse ++ .ref b :: rest) (hW : (rest.map fun v => v.category).sum ≤ 8) (hdg : decode cc pc = .ok (.invokevirtual index, 3)) (hcs : cells + mc ≤ R.cells ∧ slots + ms ≤ R.slots)
    (kk : ∀ (r : Option Value) (w1 : va_W) (H1 : Heap) (locs1 : List Loc), Pw r w1 → xP γ w1 H1 → va_D A w1 → va_S A H0 H1 locs1 → ∀ d1 : Drawn, s.drawn.sameBut d1 lw_cs → W p l e R (s.setDrawn d1) m args below meth c H1 locs1 (cells + mc) (slots + ms) Q (F0 m (pc + 3) ls (r.toList ++ rest))) : W p l e R (s.setDrawn d0) m args below meth c H locs cells slots Q (F0 m pc ls st0) :=
  xcGD hd0 (va_runV_D (As := As) (rest := rest) S (hM H.size) cw ⟨xGG_blind (fun _ _ _ _ h => h), va_recv hK hP hc he, fun U hU hW => ⟨rfl, by rw [hU], by rw [hU]; exact hP, va_K.moved hW.alike hK, hD.weaken (fun _ _ _ _ => trivial), trivial⟩⟩ rfl hn hl hst (lv_room hW) hdg hcs) hD hS hA kk
end GG
/-! what a call cuts out, where more of the world stands behind -/
theorem xup_id {W0 : va_W} : ∀ {is : List Nat} {w : va_W}, is.map (fun i => W0[i]?) = w.map some → xup W0 is w = W0
  | [], [], _ => rfl
  | [], _ :: _, _ => rfl
  | _ :: _, [], _ => rfl
  | i :: is, e :: w, h => by
    rw [List.map_cons, List.map_cons] at h
    have h1 : W0[i]? = some e := (List.cons.inj h).1
    show xup (W0.set i e) is w = W0
    rw [xset_same h1]
    exact xup_id (List.cons.inj h).2
theorem xlt_of {B wc : va_W} : ∀ {is : List Nat}, is.map (fun i => B[i]?) = wc.map some → ∀ i ∈ is, i < B.length := fun {is} h i hi => by
  obtain ⟨j, hj⟩ := List.getElem?_of_mem hi
  have h1 : (is.map (fun i => B[i]?))[j]? = some (B[i]?) := by rw [List.getElem?_map, hj]; rfl
  rw [h, List.getElem?_map] at h1
  cases hw : wc[j]? with
  | none => rw [hw] at h1; cases h1
  | some q =>
    rw [hw] at h1
    exact (List.getElem?_eq_some_iff.mp (Option.some.inj h1).symm).1
theorem xmapL {B R9 wc : va_W} {is : List Nat} (h : is.map (fun i => B[i]?) = wc.map some) : is.map (fun i => (B ++ R9)[i]?) = wc.map some := by
  rw [← h]
  refine List.map_congr_left (fun i hi => ?_)
  rw [List.getElem?_append_left (xlt_of h i hi)]
theorem xfilL {B R9 wc : va_W} {is : List Nat} (h : is.filterMap (fun i => B[i]?) = wc) (hlt : ∀ i ∈ is, i < B.length) : is.filterMap (fun i => (B ++ R9)[i]?) = wc := by
  rw [← h]
  exact xfm is hlt
theorem xsuf_R2 {base K R9 w1 : va_W} {nb : Nat} {is1 : List Nat} (hb : base.length = nb) (hK : K.length = 12) (h : is1.filterMap (fun i => base[i]?) = w1) (hlt : ∀ i ∈ is1, i < nb) : (is1 ++ List.range' nb 12).filterMap (fun i => ((base ++ K) ++ R9)[i]?) = w1 ++ K := by
  refine xfilL (xsuf_R hb hK h hlt) (fun i hi => ?_)
  rw [List.length_append, hb, hK]
  rcases List.mem_append.mp hi with h9 | h9
  · have := hlt i h9
    omega
  · have := (List.mem_range'_1.mp h9).2
    omega
theorem xsuf_M2 {base K R9 w1 : va_W} {nb : Nat} {is1 : List Nat} (hb : base.length = nb) (hK : K.length = 12) (h : is1.map (fun i => base[i]?) = w1.map some) (hlt : ∀ i ∈ is1, i < nb) : (is1 ++ List.range' nb 12).map (fun i => ((base ++ K) ++ R9)[i]?) = (w1 ++ K).map some := xmapL (xsuf_M hb hK h hlt)
theorem xup_suf3 {base K K' R9 w1 : va_W} {nb : Nat} {is1 : List Nat} (hb : base.length = nb) (hK : K.length = 12) (hK' : K'.length = 12) (hl : is1.length = w1.length) (hlt : ∀ i ∈ is1, i < nb) : xup ((base ++ K) ++ R9) (is1 ++ List.range' nb 12) (w1 ++ K') = (xup base is1 w1 ++ K') ++ R9 := by
  rw [xup_left _ _ (base ++ K) R9 (fun i hi => ?_), xup_suf2 hb hK hK' hl hlt]
  rw [List.length_append, hb, hK]
  rcases List.mem_append.mp hi with h9 | h9
  · have := hlt i h9
    omega
  · have := (List.mem_range'_1.mp h9).2
    omega
theorem xnd_suf : ∀ (is1 : List Nat) (nb k : Nat), va_nd is1 = true → (∀ i ∈ is1, i < nb) → va_nd (is1 ++ List.range' nb k) = true
  | [], nb, k, _, _ => by
    show va_nd (List.range' nb k) = true
    induction k generalizing nb with
    | zero => rfl
    | succ k ih =>
      rw [List.range'_succ]
      show (decide (nb ∉ List.range' (nb + 1) k) && va_nd (List.range' (nb + 1) k)) = true
      rw [ih (nb + 1) (fun _ h => by cases h), Bool.and_true]
      exact decide_eq_true (fun h => by have := (List.mem_range'_1.mp h).1; omega)
  | a :: is, nb, k, h, hlt => by
    have h0 : (decide (a ∉ is) && va_nd is) = true := h
    rw [Bool.and_eq_true, decide_eq_true_iff] at h0
    show (decide (a ∉ is ++ List.range' nb k) && va_nd (is ++ List.range' nb k)) = true
    rw [xnd_suf is nb k h0.2 (fun i hi => hlt i (List.mem_cons_of_mem _ hi)), Bool.and_true]
    refine decide_eq_true (fun h9 => ?_)
    rcases List.mem_append.mp h9 with h8 | h8
    · exact h0.1 h8
    · have h1 := (List.mem_range'_1.mp h8).1
      have h2 := hlt a List.mem_cons_self
      omega
theorem xmap_sufL : ∀ (K B : va_W), (List.range' B.length K.length).map (fun i => (B ++ K)[i]?) = K.map some
  | [], _ => rfl
  | a :: K, B => by
    have h1 := xmap_sufL K (B ++ [a])
    rw [List.length_append, List.length_singleton, List.append_assoc, List.singleton_append] at h1
    rw [List.length_cons, List.range'_succ, List.map_cons, List.getElem?_append_right (Nat.le_refl _), Nat.sub_self, List.getElem?_cons_zero, h1, List.map_cons]
/-- some cells, and the targets' rows behind them all -/
theorem xsufT {C E T w1 : va_W} {nb k : Nat} {is1 : List Nat} (hb : C.length + E.length = nb) (hT : T.length = k) (h : is1.map (fun i => (C ++ E)[i]?) = w1.map some) : (is1 ++ List.range' nb k).map (fun i => (C ++ (E ++ T))[i]?) = (w1 ++ T).map some := by
  subst hb; subst hT
  rw [← List.append_assoc, List.map_append, List.map_append]
  congr 1
  · exact xmapL h
  · have := xmap_sufL T (C ++ E)
    rw [List.length_append] at this
    exact this
theorem xdropT {A : Nat → Prop} {γ : xG} {C E T : va_W} {H : Heap} (hP : xP γ (C ++ (E ++ T)) H) (hD : va_D A (C ++ (E ++ T))) : xP γ (C ++ (E ++ [])) H ∧ va_D A (C ++ (E ++ [])) := by
  refine ⟨xP_of (fun q hq => ?_) hP, ?_⟩
  · rw [List.append_nil] at hq
    rw [List.mem_append] at hq ⊢
    rcases hq with h | h
    · exact Or.inl h
    · exact Or.inr (List.mem_append_left _ h)
  · rw [List.append_nil]
    rw [← List.append_assoc] at hD
    rw [xD_nd] at hD ⊢
    refine ⟨?_, fun q hq => hD.2 q (List.mem_append_left _ hq)⟩
    have h2 := hD.1
    rw [List.map_append] at h2
    exact (List.nodup_append.mp h2).1
theorem xback_perm (C E N T : va_W) : (C ++ ((E ++ N) ++ T)).Perm (C ++ (E ++ (T ++ N))) := by
  refine List.Perm.append_left C ?_
  rw [List.append_assoc]
  exact List.Perm.append_left E List.perm_append_comm
/-! the law's world, and what its methods need of the state -/
def DWt (γ : xG) (q0 q1 a1 q2 a2 q3 a3 q4 s0 : Nat) (kq ka : Nat → Nat) (n kc : Nat) (td tn wn : Int32) (f tf wf : xRow) (ks : Nat → xRow) (kn : Nat → Int32) (r tq : Nat) (ta : Nat → Nat) : va_W :=
  ([xO q0 2 [.ref q1, .ref q4, .int (nI kc), .int td, .ref q2, .ref q3], xO q1 0 [.ref a1, .int (nI n)], xA γ a1 12 f, xO q2 0 [.ref a2, .int tn], xA γ a2 12 tf, xO q3 1 [.ref a3, .int wn], xA γ a3 12 wf, xQ γ q4 6 (fun t9 => some (kq t9))] ++ xKp γ kq ka kn ks) ++ ([xO s0 3 [.ref r, .ref tq, .int td], xA γ r n f, xT γ tq kc (fun t9 => some (ta t9))] ++ xTs γ ta n ks kc)
def xActP (γ : xG) (q0 q1 a1 q2 a2 q3 a3 q4 s0 : Nat) (kq ka : Nat → Nat) (j : Nat) (v : Value) : Option Value → va_W → Prop := fun r9 w9 => r9 = some v ∧ ∃ (n kc : Nat) (td tn wn : Int32) (f tf wf : xRow) (ks : Nat → xRow) (kn : Nat → Int32) (r tq : Nat) (ta : Nat → Nat),
  xInv j n kc f ks ∧ (∀ t, t < kc → kn t = nI n) ∧ w9 = DWt γ q0 q1 a1 q2 a2 q3 a3 q4 s0 kq ka n kc td tn wn f tf wf ks kn r tq ta
def xLE (sa : Nat → Nat) (wc : va_W) (U : State) : Prop := xEv U ∧ xEs sa U ∧ xEh (va_A wc U.heap.size) U U.heap ∧ xAz U
theorem xLE_blind {sa : Nat → Nat} {wc : va_W} : ∀ (a : Array Value) (U : State) (g : JFrame) (mk : MethodId), xLE sa wc U → xLE sa wc (U.calling g mk a) := fun a U g mk h =>
  ⟨xEv.warm (s := U) (U := U.calling g mk a) (State.WarmedH.refl U) h.1, xEs.warm (s := U) (U := U.calling g mk a) (State.WarmedH.refl U) h.2.1, xEh.moved (s := U) (U := U.calling g mk a) (H := U.heap) (Vm.Alike.refl U.vm) h.2.2.1, xAz_blind a U g mk h.2.2.2⟩
theorem xLE.at {sa : Nat → Nat} {wc : va_W} {A : Nat → Prop} {s U : State} {H0 H : Heap} {locs : List Loc} (hW : s.WarmedH U.vm) (hU : U.heap = H) (hv : xEv s) (hs : xEs sa s) (hh : xEh A s H0) (ha : xAz s) (hD : va_D A wc) (hS : va_S A H0 H locs) (hA : ∀ q : Nat, H0.size ≤ q → A q) : xLE sa wc U := by
  refine ⟨hv.warm hW, hs.warm hW, ?_, ha.warm hW⟩
  rw [hU]
  refine ((hh.kept hS.2.1).narrow (fun q h => ?_)).moved hW.alike
  rcases h with ⟨k, e, h⟩ | h
  · exact hD.2 k (q, e) h
  · exact hA q (Nat.le_trans hS.1 h)
theorem xLE.eh {sa : Nat → Nat} {wc : va_W} {A : Nat → Prop} {s : State} (h : xLE sa wc s) (hAw : ∀ q : Nat, A q → va_A wc s.heap.size q) : xEh A s s.heap := h.2.2.1.narrow hAw
theorem xS_then {A : Nat → Prop} {H0 H H1 : Heap} {locs : List Loc} (hS : va_S A H0 H locs) (hz : H.size ≤ H1.size) (hk : ∀ q : Nat, q < H.size → H1[q]? = H[q]?) : va_S A H0 H1 locs :=
  ⟨Nat.le_trans hS.1 hz, fun q h h2 => (hk q (Nat.lt_of_lt_of_le h hS.1)).trans (hS.2.1 q h h2), hS.2.2⟩
/-! numbers that the script chooses -/
theorem xand_pos (v : Int32) : 0 ≤ (v &&& 2147483647).toInt := by
  have h : (v &&& 2147483647).toBitVec.msb = false := by
    rw [Int32.toBitVec_and, BitVec.msb_and]
    have e : (2147483647 : Int32).toBitVec.msb = false := by decide
    rw [e, Bool.and_false]
  rw [BitVec.msb_eq_toInt] at h
  have h1 := of_decide_eq_false h
  have e : (v &&& 2147483647).toInt = (v &&& 2147483647).toBitVec.toInt := rfl
  omega
def xBl (v : Int32) (N : Nat) : Nat := (v &&& 2147483647).toInt.toNat % N
theorem xBl_lt {v : Int32} {N : Nat} (h : 0 < N) : xBl v N < N := Nat.mod_lt _ h
theorem xBl_v {v : Int32} {N : Nat} (h : 0 < N) (h2 : N < 2 ^ 31) : (v &&& 2147483647) - (v &&& 2147483647) / nI N * nI N = nI (xBl v N) := by
  have h1 := xand_pos v
  obtain ⟨k, hk⟩ : ∃ k : Nat, (v &&& 2147483647).toInt = (k : Int) := ⟨(v &&& 2147483647).toInt.toNat, by omega⟩
  have hr := fb_rng (v &&& 2147483647)
  have hm : k % N < N := Nat.mod_lt _ h
  apply xI_ext
  rw [xremI hk (nI_toInt (n := N) h2) (by omega), Int.tdiv_eq_ediv_of_nonneg (by omega)]
  unfold xBl
  rw [hk, Int.toNat_natCast, nI_toInt (by omega)]
  have e := Int.emod_def (k : Int) (N : Int)
  rw [← Int.natCast_emod] at e
  rw [e, Int.mul_comm]
/-- a number of the script, by its place: any int -/
def xRS (l : Launch) (y : MethodName) (ws : List Cond) (rm : Room) (b L : Nat) (xs : Nat → Int32) (k : Nat) : Prop :=
  Met l y ws rm (va_Pc [.ref b, .int (nI k)] (fun U => b < U.heap.size ∧ va_X b L xs U U.heap)) (fun _ st o t => (∃ v : Int32, o = .returned (some (.int v))) ∧ t.heap = st.heap) 0 0 (fun _ => False)
section SX
variable {p : Program} {l : Launch} {e : Env} {R : Room} {s : State} {m : MethodId} {args : Array Value} {below : List Frame} {meth : Method} {c : Code} {H : Heap} {locs : List Loc} {cells slots : Nat} {Q : State → Prop}
variable {cc : ByteArray} {pc : Nat} {ls : Array Slot} {A : Nat → Prop} {st0 rest : List Value} {y : MethodName} {bytes : ByteArray} {maxL nL index n : Nat} {ret : Option FieldType} {ws Ts : List Cond} {rm : Room} {own : String} {b L : Nat} {xs : Nat → Int32}
theorem xSX {H0 : Heap} {k : Nat} (S : CallFix p m c cc nL s args Ts own) (hM : xRS l y ws rm b L xs k) (cw : CallB R s args own index y bytes maxL ret ws rm 0 0 n ∧ (Cond.static y).before args s = true) (hX : va_X b L xs s H0) (hbl : b < H0.size) (hbA : ¬ A b) (hS : va_S A H0 H locs) (hn : 2 = n) (hl : ls.size = nL) (hst : st0 = [.int (nI k), .ref b] ++ rest) (hW : (rest.map fun v => v.category).sum ≤ 8) (hdg : decode cc pc = .ok (.invokestatic index, 3)) (hcs : cells ≤ R.cells ∧ slots ≤ R.slots)
    (kk : ∀ v : Int32, W p l e R s m args below meth c H locs cells slots Q (F0 m (pc + 3) ls (.int v :: rest))) : W p l e R s m args below meth c H locs cells slots Q (F0 m pc ls st0) := by
  have hr := va_runS (p := p) (l := l) (e := e) (below := below) (meth := meth) (H := H) (locs := locs) (cells := cells) (slots := slots) (g := F0 m pc ls st0) (As := [.ref b, .int (nI k)]) (rest := rest) S hM cw ⟨fun a U g mk q => ⟨q.1, q.2.1, va_X.moved (u := U) (U := U.calling g mk a) (Vm.Alike.refl U.vm) q.2.2⟩, fun U hU hW => ⟨rfl, by rw [hU]; exact Nat.lt_of_lt_of_le hbl hS.1, by rw [hU]; exact (va_X.moved hW.alike hX).kept (hS.2.1 b hbl hbA)⟩⟩ rfl hn hl hst (lv_room hW) hdg hcs
  intro T hT X
  obtain ⟨v, st₀, t, T', L9, h0, X', hL, e1, e2, ⟨⟨x, hv⟩, hh⟩, st⟩ := hr T hT X
  cases hv
  obtain ⟨t2, a1, b1⟩ := kk x T' (by rw [e1, hh, h0]) (Stand.forget X' (fun q h => (hL q h).elim))
  exact ⟨t2, st t2 a1, b1⟩
end SX
theorem xnum {k : Nat} {a : Nat} (h : k < 2 * a + 1) (ha : a ≤ 999) : ¬ nI k - nI a < -(nI a) ∧ nI k - nI a ≤ nI a := by
  have e1 : (nI k - nI a).toInt = (k : Int) - a := xsubI (nI_toInt (n := k) (by omega)) (nI_toInt (n := a) (by omega)) (by omega) (by omega)
  have e2 : (-(nI a)).toInt = -(a : Int) := xnegI (nI_toInt (n := a) (by omega)) (by omega) (by omega)
  rw [Int32.lt_iff_toInt_lt, Int32.le_iff_toInt_le, e1, e2, nI_toInt (by omega)]
  omega
theorem xnum_le {x a b : Int32} (h1 : ¬ x < -a) (h2 : x ≤ a) (h3 : a ≤ b) (h4 : -b ≤ -a) : ¬ x < -b ∧ x ≤ b := by
  rw [Int32.lt_iff_toInt_lt, Int32.le_iff_toInt_le] at *
  omega
theorem xkc6 {kc : Nat} (h : kc ≤ 6) : (6 : Int32) ≤ nI kc ↔ 6 ≤ kc := by
  rw [Int32.le_iff_toInt_le, nI_toInt (n := kc) (by omega)]
  have e : (6 : Int32).toInt = 6 := by decide
  omega
theorem xup_end {W0 W1 : va_W} {is1 : List Nat} {w1 : va_W} {s1 s2 : Nat} {a b : Nat × va_E} (hl : is1.length = w1.length) (hW : xup W0 is1 w1 = W1) (h1 : W1[s1]? = some a) (h2 : W1[s2]? = some b) : xup W0 (is1 ++ [s1, s2]) (w1 ++ [a, b]) = W1 := by
  rw [xup_app is1 w1 _ _ _ hl, hW]
  show xup ((W1.set s1 a).set s2 b) [] [] = W1
  rw [xset_same h1, xset_same h2]
  rfl
theorem xRot_s {n k i : Nat} {g f : xRow} (hn : 3 ≤ n) (hk : k < n) (hi : i < k + 1) (hg : ∀ i, i < k → g (xWr n ((i : Int) + 1)) = f i) : upd g (xWr n ((k : Int) + 1)) (f k) (xWr n ((i : Int) + 1)) = f i := by
  unfold upd
  by_cases c : i = k
  · rw [c, if_pos rfl]
  · rw [if_neg, hg i (by omega)]
    unfold xWr
    (repeat' split) <;> omega
theorem xRot_of {n : Nat} {g f : xRow} (hn : 3 ≤ n) (_h : n ≤ 12) (hg : ∀ i, i < n → g (xWr n ((i : Int) + 1)) = f i) : ∀ i, i < n → g i = xRot n f i := by
  intro i hi
  unfold xRot
  by_cases c : i = 0
  · subst c
    rw [if_pos rfl, ← hg (n - 1) (by omega)]
    congr 1
    unfold xWr
    (repeat' split) <;> omega
  · rw [if_neg c, if_pos hi, ← hg (i - 1) (by omega)]
    congr 1
    unfold xWr
    (repeat' split) <;> omega
theorem xRot_0 {n : Nat} {f : xRow} (_h : 3 ≤ n) : f (n - 1) = xRot n f 0 := rfl

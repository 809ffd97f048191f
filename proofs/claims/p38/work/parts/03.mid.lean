/-! worlds, contracts and call rows in the words of this proof: xR a method that changes nothing (its answer is a function of its world), xM one that changes its world's cells in place -/
abbrev xRow : Type := Nat → Int32
abbrev xG : Type := va_G × ClassId × ClassId × ClassId × ClassId
abbrev xTy (γ : xG) : List (ClassId × FieldType) := [(γ.2.1, .int), (γ.2.2.1, .object RX0), (γ.2.2.2.1, .array .int), (γ.2.2.2.2, .boolean)]
abbrev xK (γ : xG) (U : State) : Prop := va_K γ.1 vwCl (xTy γ) U
abbrev xP (γ : xG) (ws : va_W) (H : Heap) : Prop := va_P γ.1 vwCl ws H
abbrev xA (γ : xG) (q n : Nat) (f : xRow) : Nat × va_E := (q, .inl (γ.2.1, n, .inl f))
abbrev xO (q ci : Nat) (fs : List Value) : Nat × va_E := (q, .inr (ci, fs))
abbrev xQ (γ : xG) (q n : Nat) (f : Nat → Option Nat) : Nat × va_E := (q, .inl (γ.2.2.1, n, .inr (.inr (.inr (.inr f)))))
abbrev xT (γ : xG) (q n : Nat) (f : Nat → Option Nat) : Nat × va_E := (q, .inl (γ.2.2.2.1, n, .inr (.inr (.inr (.inr f)))))
abbrev xBo (γ : xG) (q n : Nat) (f : xRow) : Nat × va_E := (q, .inl (γ.2.2.2.2, n, .inl f))
def xRQ (r : Option Value) : Array Value → State → Outcome → State → Prop := fun _ st o t => o = .returned r ∧ t.heap = st.heap
def xR (γ : xG) (l : Launch) (y : MethodName) (ws : List Cond) (rm : Room) (av : List Value) (wc : va_W) (r : Option Value) : Prop :=
  Met l y ws rm (va_Pc av (fun U => xP γ wc U.heap ∧ xK γ U)) (xRQ r) 0 0 (fun _ => False)
def xMQ (γ : xG) (fs : List Nat) (A : Nat → Prop) (Pw : Option Value → va_W → Prop) : Array Value → State → Outcome → State → Prop := fun _ st o t =>
  (∃ (r : Option Value) (w1 : va_W), o = .returned r ∧ Pw r w1 ∧ w1.map Prod.fst = fs ∧ xP γ w1 t.heap) ∧ va_F A st t
def xM (γ : xG) (l : Launch) (y : MethodName) (ws : List Cond) (rm : Room) (av : List Value) (wc : va_W) (Pw : Option Value → va_W → Prop) (mc ms : Nat) : Prop :=
  ∀ sz : Nat, Met l y ws rm (va_Pc av (fun U => U.heap.size = sz ∧ xP γ wc U.heap ∧ xK γ U ∧ va_D (fun _ => True) wc)) (xMQ γ (wc.map Prod.fst) (va_A wc sz) Pw) mc ms (va_A wc sz)
theorem xR.of {γ : xG} {l : Launch} {y : MethodName} {ws ws' : List Cond} {rm : Room} {av : List Value} {wc : va_W} {r : Option Value} {cc : ByteArray} {maxL : Nat} {ret : Option FieldType}
    (hy : plainName y.cls = true) (hw : ws = Cond.code y cc maxL ret :: ws') (hlen : (lg_sl av).length ≤ maxL)
    (body : ∀ (p : Program) (e : Env) (s : State) (m : MethodId) (below : List Frame) (meth : Method) (c : Code), p.tables.exec = Jvm.exec → c.code = cc → meth.sig.returnType = ret → c.maxLocals = maxL → (∀ w ∈ ws, w.before av.toArray s = true) → s.vm.findClass y.cls = some m.cls → meth.locks = false → xP γ wc s.heap → xK γ s → ∀ ls : Array Slot, lv_has ls maxL (lv_args 0 av) →
      W p l e rm s m av.toArray below meth c s.heap [] 0 0 (MQ below (xRQ r) av.toArray s 0 0 (fun _ => False)) (F0 m 0 ls [])) : xR γ l y ws rm av wc r := by
  refine Met.ofW (cc := cc) (maxL := maxL) (ret := ret) hy hw ?_
  intro p e s m args below meth c s₁ B hml hv
  obtain ⟨rfl, hP, hK⟩ := hv
  have hl := lv_entry av (n := maxL) hlen
  rw [lg_entry_eq]
  exact body p e s m below meth c B.exec B.bytes B.returns hml (atoms_spec (ws := ws) B.pre) (findClass_of_methodNamed B.named) B.notSynchronized hP hK _ hl
/-- .. of a method of a class that has natives of its own (java/lang/Math), follows Met.ofW -/
theorem xR.ofF {γ : xG} {l : Launch} {y : MethodName} {ws ws' : List Cond} {rm : Room} {av : List Value} {wc : va_W} {r : Option Value} {cc : ByteArray} {maxL : Nat} {ret : Option FieldType}
    (hy : plainFor y = true) (hw : ws = Cond.code y cc maxL ret :: ws') (hlen : (lg_sl av).length ≤ maxL)
    (body : ∀ (p : Program) (e : Env) (s : State) (m : MethodId) (below : List Frame) (meth : Method) (c : Code), p.tables.exec = Jvm.exec → c.code = cc → meth.sig.returnType = ret → c.maxLocals = maxL → (∀ w ∈ ws, w.before av.toArray s = true) → s.vm.findClass y.cls = some m.cls → meth.locks = false → xP γ wc s.heap → xK γ s → ∀ ls : Array Slot, lv_has ls maxL (lv_args 0 av) →
      W p l e rm s m av.toArray below meth c s.heap [] 0 0 (MQ below (xRQ r) av.toArray s 0 0 (fun _ => False)) (F0 m 0 ls [])) : xR γ l y ws rm av wc r := by
  unfold xR Met
  refine MetFree.of_bodySF (code := cc) (maxLocals := maxL) (ret := ret) hy ?_ ?_
  · intro args s m h hn
    obtain ⟨meth, c, h1, h2, h3, h4, h5, h6, -, -⟩ := Cond.code_spec hn (atoms_spec (ws := ws) h _ (by rw [hw]; exact List.mem_cons_self))
    exact ⟨meth, c, h1, h2, h3, h4, h5, h6⟩
  · intro p e s m args below meth c s₁ B hml hv _
    have hh0 : s₁.heap = s.heap := by rw [B.state]; rfl
    obtain ⟨rfl, hP, hK⟩ := hv
    have hl := lv_entry av (n := maxL) hlen
    have h9 := body p e s m below meth c B.exec B.bytes B.returns hml (atoms_spec (ws := ws) B.pre) (findClass_of_methodNamed B.named) B.notSynchronized hP hK _ hl
    obtain ⟨t, a1, o, b1, b2, b3⟩ := h9 s₁ hh0 (Stand.of_body B)
    rw [lg_entry_eq]
    exact ⟨t, o, a1, b1, b2, ⟨b3.1, b3.2⟩⟩
theorem xM.of {γ : xG} {l : Launch} {y : MethodName} {ws ws' : List Cond} {rm : Room} {av : List Value} {wc : va_W} {Pw : Option Value → va_W → Prop} {mc ms : Nat} {cc : ByteArray} {maxL : Nat} {ret : Option FieldType}
    (hy : plainName y.cls = true) (hw : ws = Cond.code y cc maxL ret :: ws') (hlen : (lg_sl av).length ≤ maxL)
    (body : ∀ (p : Program) (e : Env) (s : State) (m : MethodId) (below : List Frame) (meth : Method) (c : Code), p.tables.exec = Jvm.exec → c.code = cc → meth.sig.returnType = ret → c.maxLocals = maxL → (∀ w ∈ ws, w.before av.toArray s = true) → s.vm.findClass y.cls = some m.cls → meth.locks = false → meth.name = y.name → xP γ wc s.heap → xK γ s → ∀ A : Nat → Prop, (∀ q : Nat, s.heap.size ≤ q → A q) → va_D A wc → ∀ ls : Array Slot, lv_has ls maxL (lv_args 0 av) →
      W p l e rm s m av.toArray below meth c s.heap [] 0 0 (MQ below (xMQ γ (wc.map Prod.fst) A Pw) av.toArray s mc ms A) (F0 m 0 ls [])) : xM γ l y ws rm av wc Pw mc ms := by
  intro sz
  refine Met.ofW (cc := cc) (maxL := maxL) (ret := ret) hy hw ?_
  intro p e s m args below meth c s₁ B hml hv
  obtain ⟨rfl, hsz, hP, hK, hD0⟩ := hv
  subst hsz
  have hl := lv_entry av (n := maxL) hlen
  rw [lg_entry_eq]
  exact body p e s m below meth c B.exec B.bytes B.returns hml (atoms_spec (ws := ws) B.pre) (findClass_of_methodNamed B.named) B.notSynchronized (name_of_methodNamed B.named B.method).1 hP hK (va_A wc s.heap.size) (fun q h => Or.inr h) (hD0.self (sz := s.heap.size)) _ hl
theorem xR_blind {γ : xG} {av : List Value} {wc : va_W} : FrameBlind (va_Pc av (fun U => xP γ wc U.heap ∧ xK γ U)) := fun a U g mk q => ⟨q.1, q.2.1, va_K.moved (u := U) (U := U.calling g mk a) (Vm.Alike.refl U.vm) q.2.2⟩
theorem xM_blind {γ : xG} {av : List Value} {wc : va_W} {sz : Nat} : FrameBlind (va_Pc av (fun U => U.heap.size = sz ∧ xP γ wc U.heap ∧ xK γ U ∧ va_D (fun _ => True) wc)) := fun a U g mk q => ⟨q.1, q.2.1, q.2.2.1, va_K.moved (u := U) (U := U.calling g mk a) (Vm.Alike.refl U.vm) q.2.2.2.1, q.2.2.2.2⟩
/-- a world with some of its cells put anew -/
def xup (W0 : va_W) : List Nat → va_W → va_W
  | i :: is, e :: w => xup (W0.set i e) is w
  | _, _ => W0
theorem xup_get : ∀ (is : List Nat) (w : va_W) (W0 : va_W) (k : Nat) (q : Nat × va_E), is.length = w.length → (xup W0 is w)[k]? = some q → (∃ j : Nat, is[j]? = some k ∧ w[j]? = some q) ∨ (k ∉ is ∧ W0[k]? = some q)
  | [], [], W0, k, q, _, h => Or.inr ⟨List.not_mem_nil, h⟩
  | [], _ :: _, _, _, _, hl, _ => by simp at hl
  | _ :: _, [], _, _, _, hl, _ => by simp at hl
  | i :: is, e :: w, W0, k, q, hl, h => by
    have hl' : is.length = w.length := by simpa using hl
    rcases xup_get is w (W0.set i e) k q hl' h with ⟨j, h1, h2⟩ | ⟨h1, h2⟩
    · exact Or.inl ⟨j + 1, by simpa using h1, by simpa using h2⟩
    · by_cases hik : i = k
      · subst hik
        have hlt : i < (W0.set i e).length := (List.getElem?_eq_some_iff.mp h2).1
        have hlt' : i < W0.length := by simpa using hlt
        rw [List.getElem?_set_self hlt'] at h2
        exact Or.inl ⟨0, rfl, by simpa using h2⟩
      · rw [List.getElem?_set_ne hik] at h2
        exact Or.inr ⟨by simp only [List.mem_cons, not_or]; exact ⟨fun h => hik h.symm, h1⟩, h2⟩
theorem xjoin {γ : xG} {A0 : Nat → Prop} {W0 wc w1 : va_W} {H H1 : Heap} {is : List Nat} (hP : xP γ W0 H) (hD : va_D A0 W0) (hC : is.map (fun i => W0[i]?) = wc.map some) (ha : w1.map Prod.fst = wc.map Prod.fst)
    (hk : ∀ q : Nat, q < H.size → ¬ va_A wc H.size q → H1[q]? = H[q]?) (hP1 : xP γ w1 H1) : xP γ (xup W0 is w1) H1 ∧ va_D A0 (xup W0 is w1) := by
  have hlen : is.length = w1.length := by
    have h1 := congrArg List.length hC
    have h2 := congrArg List.length ha
    simp only [List.length_map] at h1 h2
    omega
  have at' : ∀ (j : Nat) (q : Nat × va_E), wc[j]? = some q → ∃ i, is[j]? = some i ∧ W0[i]? = some q := by
    intro j q hq
    have h1 : (is.map (fun i => W0[i]?))[j]? = some (some q) := by rw [hC, List.getElem?_map, hq]; rfl
    rw [List.getElem?_map] at h1
    cases hi : is[j]? with
    | none => rw [hi] at h1; cases h1
    | some i => rw [hi] at h1; exact ⟨i, rfl, Option.some.inj h1⟩
  have old : ∀ (j : Nat) (q : Nat × va_E), w1[j]? = some q → ∃ q' i, is[j]? = some i ∧ W0[i]? = some q' ∧ q'.1 = q.1 := by
    intro j q hq
    have h1 : (w1.map Prod.fst)[j]? = some q.1 := by rw [List.getElem?_map, hq]; rfl
    rw [ha, List.getElem?_map] at h1
    cases hw : wc[j]? with
    | none => rw [hw] at h1; cases h1
    | some q' =>
      rw [hw] at h1
      obtain ⟨i, h2, h3⟩ := at' j q' hw
      exact ⟨q', i, h2, h3, Option.some.inj h1⟩
  have was : ∀ (k : Nat) (q : Nat × va_E), (xup W0 is w1)[k]? = some q → ∃ q', W0[k]? = some q' ∧ q'.1 = q.1 := by
    intro k q hq
    rcases xup_get is w1 W0 k q hlen hq with ⟨j, h1, h2⟩ | ⟨h1, h2⟩
    · obtain ⟨q', i, g1, g2, g3⟩ := old j q h2
      cases Option.some.inj (h1.symm.trans g1)
      exact ⟨q', g2, g3⟩
    · exact ⟨q, h2, rfl⟩
  refine ⟨fun k q hq => ?_, fun i j p q hp hq hpq => ?_, fun k q hq => ?_⟩
  · rcases xup_get is w1 W0 k q hlen hq with ⟨j, h1, h2⟩ | ⟨h1, h2⟩
    · exact hP1 j q h2
    · refine (hP k q h2).kept (hk q.1 (hP k q h2).lt (fun h => ?_))
      rcases h with ⟨j, e, h⟩ | h
      · obtain ⟨i, g1, g2⟩ := at' j (q.1, e) h
        have hik := hD.1 i k (q.1, e) q g2 h2 rfl
        subst hik
        exact h1 (List.mem_of_getElem? g1)
      · have := (hP k q h2).lt
        omega
  · obtain ⟨p', h1, h2⟩ := was i p hp
    obtain ⟨q', h3, h4⟩ := was j q hq
    exact hD.1 i j p' q' h1 h3 (by rw [h2, h4, hpq])
  · obtain ⟨q', h1, h2⟩ := was k q hq
    rw [← h2]
    exact hD.2 k q' h1
section X
variable {p : Program} {l : Launch} {e : Env} {R : Room} {s : State} {m : MethodId} {args : Array Value} {below : List Frame} {meth : Method} {c : Code} {H : Heap} {locs : List Loc} {cells slots : Nat} {Q : State → Prop}
variable {cc : ByteArray} {pc : Nat} {ls : Array Slot} {γ : xG}
theorem x_top {x y : Int32} {rest : List Value} (h : x = y) (k : W p l e R s m args below meth c H locs cells slots Q (F0 m pc ls (.int y :: rest))) : W p l e R s m args below meth c H locs cells slots Q (F0 m pc ls (.int x :: rest)) := h ▸ k
theorem x_topl {x y : Int64} {rest : List Value} (h : x = y) (k : W p l e R s m args below meth c H locs cells slots Q (F0 m pc ls (.long y :: rest))) : W p l e R s m args below meth c H locs cells slots Q (F0 m pc ls (.long x :: rest)) := h ▸ k
theorem x_iald {rest : List Value} {a : Nat} {W0 : va_W} (hx : p.tables.exec = Jvm.exec) (hb : c.code = cc) (hK : xK γ s) (hP : xP γ W0 H) (q0 : Nat) {n : Nat} {f : xRow} (ha : W0[q0]? = some (xA γ a n f)) {i : Int32} (k : Nat) (hi : i = nI k) (hk : k < n) (hn : n < 2 ^ 31) (hdg : decode cc pc = .ok (.iaload, 1))
    (kk : W p l e R s m args below meth c H locs cells slots Q (F0 m (pc + 1) ls (.int (f k) :: rest))) : W p l e R s m args below meth c H locs cells slots Q (F0 m pc ls (.int i :: .ref a :: rest)) := by
  subst hi
  have e1 : (nI k).toNatClampNeg = k := nI_clamp (by omega)
  refine va_iald hx hb hK hP q0 0 ha rfl (vp_in_nI hk hn) hdg ?_
  rw [e1]
  exact kk
theorem x_iast {rest : List Value} {a : Nat} {W0 : va_W} {A : Nat → Prop} {H0 : Heap} (hx : p.tables.exec = Jvm.exec) (hb : c.code = cc) (hK : xK γ s) (hP : xP γ W0 H) (hD : va_D A W0) (hS : va_S A H0 H locs) (q0 : Nat) {n : Nat} {f : xRow} (ha : W0[q0]? = some (xA γ a n f)) {i x : Int32} (k : Nat) (hi : i = nI k) (hk : k < n) (hn : n < 2 ^ 31) (hdg : decode cc pc = .ok (.iastore, 1))
    (kk : ∀ (H1 : Heap) (locs1 : List Loc), xP γ (W0.set q0 (xA γ a n (upd f k x))) H1 → va_D A (W0.set q0 (xA γ a n (upd f k x))) → va_S A H0 H1 locs1 → W p l e R s m args below meth c H1 locs1 cells slots Q (F0 m (pc + 1) ls rest)) : W p l e R s m args below meth c H locs cells slots Q (F0 m pc ls (.int x :: .int i :: .ref a :: rest)) := by
  subst hi
  have e1 : (nI k).toNatClampNeg = k := nI_clamp (by omega)
  refine va_iast hx hb hK hP hD hS q0 0 ha rfl (vp_in_nI hk hn) hdg ?_
  rw [e1]
  exact kk
theorem xR_i {x v : Int32} (hx : p.tables.exec = Jvm.exec) (hb : c.code = cc) (hr : meth.sig.returnType = some .int) (hlocks : meth.locks = false) (hdg : decode cc pc = .ok (.ireturn, 1)) (hv : x = v) : W p l e R s m args below meth c s.heap [] 0 0 (MQ below (xRQ (some (.int v))) args s 0 0 (fun _ => False)) (F0 m pc ls [.int x]) := by
  subst hv
  exact W.iret hx hb hr (fun t ht _ => ⟨rfl, ht⟩) (fun q h => by cases h) hdg hlocks
theorem xR_z {x v : Int32} (hx : p.tables.exec = Jvm.exec) (hb : c.code = cc) (hr : meth.sig.returnType = some .boolean) (hlocks : meth.locks = false) (hdg : decode cc pc = .ok (.ireturn, 1)) (hz : x = 0 ∨ x = 1) (hv : x = v) : W p l e R s m args below meth c s.heap [] 0 0 (MQ below (xRQ (some (.int v))) args s 0 0 (fun _ => False)) (F0 m pc ls [.int x]) := by
  subst hv
  exact W.zret hx hb hr (by rcases hz with h | h <;> rw [h] <;> rfl) (fun t ht _ => ⟨rfl, ht⟩) (fun q h => by cases h) hdg hlocks
theorem xR_l {x v : Int64} (hx : p.tables.exec = Jvm.exec) (hb : c.code = cc) (hr : meth.sig.returnType = some .long) (hlocks : meth.locks = false) (hdg : decode cc pc = .ok (.lreturn, 1)) (hv : x = v) : W p l e R s m args below meth c s.heap [] 0 0 (MQ below (xRQ (some (.long v))) args s 0 0 (fun _ => False)) (F0 m pc ls [.long x]) := by
  subst hv
  exact W.lret hx hb hr (fun t ht _ => ⟨rfl, ht⟩) (fun q h => by cases h) hdg hlocks
theorem xR_v (hx : p.tables.exec = Jvm.exec) (hb : c.code = cc) (hr : meth.sig.returnType = none) (hlocks : meth.locks = false) (hdg : decode cc pc = .ok (.return_, 1)) : W p l e R s m args below meth c s.heap [] 0 0 (MQ below (xRQ none) args s 0 0 (fun _ => False)) (F0 m pc ls []) :=
  W.vret hx hb hr (fun t ht _ => ⟨rfl, ht⟩) (fun q h => by cases h) hdg hlocks
theorem xR_a {a b : Nat} {rt : FieldType} (hx : p.tables.exec = Jvm.exec) (hb : c.code = cc) (hr : meth.sig.returnType = some rt) (hrt : (∃ n, rt = .object n) ∨ ∃ t, rt = .array t) (hlocks : meth.locks = false) (hdg : decode cc pc = .ok (.areturn, 1)) (hv : a = b) : W p l e R s m args below meth c s.heap [] 0 0 (MQ below (xRQ (some (.ref b))) args s 0 0 (fun _ => False)) (F0 m pc ls [.ref a]) := by
  subst hv
  exact W.aret hx hb hr hrt (Or.inr ⟨_, rfl⟩) (fun t ht _ => ⟨rfl, ht⟩) (fun q h => by cases h) hdg hlocks
variable {A : Nat → Prop} {W0 : va_W} {Pw : Option Value → va_W → Prop} {fs : List Nat} {mc ms : Nat}
theorem xM_i {x : Int32} (hx : p.tables.exec = Jvm.exec) (hb : c.code = cc) (hr : meth.sig.returnType = some .int) (hlocks : meth.locks = false) (hdg : decode cc pc = .ok (.ireturn, 1)) (hP : xP γ W0 H) (hf : W0.map Prod.fst = fs) (hS : va_S A s.heap H locs) (hc : cells ≤ mc) (hs : slots ≤ ms) (hp : Pw (some (.int x)) W0) : W p l e R s m args below meth c H locs cells slots (MQ below (xMQ γ fs A Pw) args s mc ms A) (F0 m pc ls [.int x]) :=
  W.widen hc hs (W.iret hx hb hr (fun t ht _ => ⟨⟨_, W0, rfl, hp, hf, by rw [ht]; exact hP⟩, hS.F ht⟩) hS.2.2 hdg hlocks)
theorem xM_z {x : Int32} (hx : p.tables.exec = Jvm.exec) (hb : c.code = cc) (hr : meth.sig.returnType = some .boolean) (hlocks : meth.locks = false) (hdg : decode cc pc = .ok (.ireturn, 1)) (hz : x = 0 ∨ x = 1) (hP : xP γ W0 H) (hf : W0.map Prod.fst = fs) (hS : va_S A s.heap H locs) (hc : cells ≤ mc) (hs : slots ≤ ms) (hp : Pw (some (.int x)) W0) : W p l e R s m args below meth c H locs cells slots (MQ below (xMQ γ fs A Pw) args s mc ms A) (F0 m pc ls [.int x]) :=
  W.widen hc hs (W.zret hx hb hr (by rcases hz with h | h <;> rw [h] <;> rfl) (fun t ht _ => ⟨⟨_, W0, rfl, hp, hf, by rw [ht]; exact hP⟩, hS.F ht⟩) hS.2.2 hdg hlocks)
theorem xM_l {x : Int64} (hx : p.tables.exec = Jvm.exec) (hb : c.code = cc) (hr : meth.sig.returnType = some .long) (hlocks : meth.locks = false) (hdg : decode cc pc = .ok (.lreturn, 1)) (hP : xP γ W0 H) (hf : W0.map Prod.fst = fs) (hS : va_S A s.heap H locs) (hc : cells ≤ mc) (hs : slots ≤ ms) (hp : Pw (some (.long x)) W0) : W p l e R s m args below meth c H locs cells slots (MQ below (xMQ γ fs A Pw) args s mc ms A) (F0 m pc ls [.long x]) :=
  W.widen hc hs (W.lret hx hb hr (fun t ht _ => ⟨⟨_, W0, rfl, hp, hf, by rw [ht]; exact hP⟩, hS.F ht⟩) hS.2.2 hdg hlocks)
theorem xM_v (hx : p.tables.exec = Jvm.exec) (hb : c.code = cc) (hr : meth.sig.returnType = none) (hlocks : meth.locks = false) (hdg : decode cc pc = .ok (.return_, 1)) (hP : xP γ W0 H) (hf : W0.map Prod.fst = fs) (hS : va_S A s.heap H locs) (hc : cells ≤ mc) (hs : slots ≤ ms) (hp : Pw none W0) : W p l e R s m args below meth c H locs cells slots (MQ below (xMQ γ fs A Pw) args s mc ms A) (F0 m pc ls []) :=
  W.widen hc hs (W.vret hx hb hr (fun t ht _ => ⟨⟨_, W0, rfl, hp, hf, by rw [ht]; exact hP⟩, hS.F ht⟩) hS.2.2 hdg hlocks)
variable {rest st0 stk As : List Value} {a : Array Value} {r : Option Value} {wc : va_W} {nL n index : Nat} {y : MethodName} {bytes : ByteArray} {maxL : Nat} {ret : Option FieldType} {ws Ts : List Cond} {rm : Room} {own C : String} {b : Addr}
theorem xcR (hr : va_Run p l e R s m args below meth c H locs cells slots 0 0 (F0 m pc ls st0) rest (xRQ r a) (fun _ => False)) (kk : W p l e R s m args below meth c H locs cells slots Q (F0 m (pc + 3) ls (r.toList ++ rest))) : W p l e R s m args below meth c H locs cells slots Q (F0 m pc ls st0) := by
  intro T hT X
  obtain ⟨v, st₀, t, T', L, h0, X', hL, e1, e2, ⟨hv, hh⟩, st⟩ := hr T hT X
  cases hv
  obtain ⟨t2, a1, b1⟩ := kk T' (by rw [e1, hh, h0]) (Stand.forget X' (fun q h => (hL q h).elim))
  exact ⟨t2, st t2 a1, b1⟩
theorem xcM {H0 : Heap} {is : List Nat} (hr : va_Run p l e R s m args below meth c H locs cells slots mc ms (F0 m pc ls st0) rest (xMQ γ (wc.map Prod.fst) (va_A wc H.size) Pw a) (va_A wc H.size)) (hP : xP γ W0 H) (hD : va_D A W0) (hS : va_S A H0 H locs) (hA : ∀ q : Nat, H0.size ≤ q → A q) (hC : is.map (fun i => W0[i]?) = wc.map some)
    (kk : ∀ (r : Option Value) (w1 : va_W) (H1 : Heap) (locs1 : List Loc), Pw r w1 → xP γ (xup W0 is w1) H1 → va_D A (xup W0 is w1) → va_S A H0 H1 locs1 → W p l e R s m args below meth c H1 locs1 (cells + mc) (slots + ms) Q (F0 m (pc + 3) ls (r.toList ++ rest))) : W p l e R s m args below meth c H locs cells slots Q (F0 m pc ls st0) := by
  intro T hT X
  obtain ⟨v, st₀, t, T', L, h0, X', hL, e1, e2, ⟨⟨r, w1, hv, hp, hfs, hP1⟩, hz, hk⟩, st⟩ := hr T hT X
  cases hv
  rw [h0] at hz hk
  have hF := va_free (wc := wc) hD hS hA is hC
  obtain ⟨hP2, hD2⟩ := xjoin hP hD hC hfs (fun q h1 h2 => hk q h1 h2) hP1
  obtain ⟨t2, a1, b1⟩ := kk v w1 T'.heap (locs ++ L) hp (by rw [e1]; exact hP2) hD2
    ⟨Nat.le_trans hS.1 (by rw [e1]; exact hz), fun q h1 h2 => by rw [e1, hk q (Nat.lt_of_lt_of_le h1 hS.1) (fun z => h2 (hF q z))]; exact hS.2.1 q h1 h2, fun q hq => by
      rcases List.mem_append.mp hq with h | h
      · exact hS.2.2 q h
      · exact hF _ (hL q h)⟩ T' rfl X'
  exact ⟨t2, st t2 a1, b1⟩
/-- a call of a method that changes nothing -/
theorem xVR {q0 ci : Nat} {fv : List Value} {qc : vw_C} (S : CallFix p m c cc nL s args Ts own) (hM : xR γ l y ws rm (.ref b :: As) wc r) (cw : CallW R s args own qc.1 index y bytes maxL ret ws rm 0 0 n) (hK : xK γ s) (hP : xP γ W0 H) (is : List Nat) (hC : is.filterMap (fun i => W0[i]?) = wc) (he : W0[q0]? = some (b, .inr (ci, fv))) (hc : vwCl[ci]? = some qc) (hn : As.length = n) (hl : ls.size = nL) (hst : st0 = As.reverse ++ .ref b :: rest) (hW : (rest.map fun v => v.category).sum ≤ 8) (hdg : decode cc pc = .ok (.invokevirtual index, 3)) (hcs : cells ≤ R.cells ∧ slots ≤ R.slots) (hk : r.toList ++ rest = stk)
    (kk : W p l e R s m args below meth c H locs cells slots Q (F0 m (pc + 3) ls stk)) : W p l e R s m args below meth c H locs cells slots Q (F0 m pc ls st0) := by
  subst hk
  exact xcR (va_runV (As := As) (rest := rest) S hM cw ⟨xR_blind, va_recv hK hP hc he, fun U hU hW => ⟨rfl, by rw [hU]; exact hP.sub is hC, va_K.moved hW.alike hK⟩⟩ rfl hn hl hst (lv_room hW) hdg hcs) kk
theorem xSR (S : CallFix p m c cc nL s args Ts own) (hM : xR γ l y ws rm As wc r) (cw : CallB R s args own index y bytes maxL ret ws rm 0 0 n ∧ (Cond.static y).before args s = true) (hK : xK γ s) (hP : xP γ W0 H) (is : List Nat) (hC : is.filterMap (fun i => W0[i]?) = wc) (hn : As.length = n) (hl : ls.size = nL) (hst : st0 = As.reverse ++ rest) (hW : (rest.map fun v => v.category).sum ≤ 8) (hdg : decode cc pc = .ok (.invokestatic index, 3)) (hcs : cells ≤ R.cells ∧ slots ≤ R.slots) (hk : r.toList ++ rest = stk)
    (kk : W p l e R s m args below meth c H locs cells slots Q (F0 m (pc + 3) ls stk)) : W p l e R s m args below meth c H locs cells slots Q (F0 m pc ls st0) := by
  subst hk
  exact xcR (va_runS (As := As) (rest := rest) S hM cw ⟨xR_blind, fun U hU hW => ⟨rfl, by rw [hU]; exact hP.sub is hC, va_K.moved hW.alike hK⟩⟩ rfl hn hl hst (lv_room hW) hdg hcs) kk
/-- a call of a method that changes its world's cells in place -/
theorem xVM {q0 ci : Nat} {fv : List Value} {qc : vw_C} {H0 : Heap} (S : CallFix p m c cc nL s args Ts own) (hM : xM γ l y ws rm (.ref b :: As) wc Pw mc ms) (cw : CallW R s args own qc.1 index y bytes maxL ret ws rm mc ms n) (hK : xK γ s) (hP : xP γ W0 H) (hD : va_D A W0) (hS : va_S A H0 H locs) (hA : ∀ q : Nat, H0.size ≤ q → A q) (is : List Nat) (hnd : va_nd is = true) (hC : is.map (fun i => W0[i]?) = wc.map some) (he : W0[q0]? = some (b, .inr (ci, fv))) (hc : vwCl[ci]? = some qc) (hn : As.length = n) (hl : ls.size = nL) (hst : st0 = As.reverse ++ .ref b :: rest) (hW : (rest.map fun v => v.category).sum ≤ 8) (hdg : decode cc pc = .ok (.invokevirtual index, 3)) (hcs : cells + mc ≤ R.cells ∧ slots + ms ≤ R.slots)
    (kk : ∀ (r : Option Value) (w1 : va_W) (H1 : Heap) (locs1 : List Loc), Pw r w1 → xP γ (xup W0 is w1) H1 → va_D A (xup W0 is w1) → va_S A H0 H1 locs1 → W p l e R s m args below meth c H1 locs1 (cells + mc) (slots + ms) Q (F0 m (pc + 3) ls (r.toList ++ rest))) : W p l e R s m args below meth c H locs cells slots Q (F0 m pc ls st0) := by
  have hPc : xP γ wc H := fun k q hq => by
    have h1 : (is.map (fun i => W0[i]?))[k]? = some (some q) := by rw [hC, List.getElem?_map, hq]; rfl
    rw [List.getElem?_map] at h1
    cases hi : is[k]? with
    | none => rw [hi] at h1; cases h1
    | some i => rw [hi] at h1; exact hP i q (Option.some.inj h1)
  exact xcM (va_runV (As := As) (rest := rest) S (hM H.size) cw ⟨xM_blind, va_recv hK hP hc he, fun U hU hW => ⟨rfl, by rw [hU], by rw [hU]; exact hPc, va_K.moved hW.alike hK, (hD.sub is hnd hC).weaken (fun _ _ _ _ => trivial)⟩⟩ rfl hn hl hst (lv_room hW) hdg hcs) hP hD hS hA hC kk
theorem xSM {H0 : Heap} (S : CallFix p m c cc nL s args Ts own) (hM : xM γ l y ws rm As wc Pw mc ms) (cw : CallB R s args own index y bytes maxL ret ws rm mc ms n ∧ (Cond.static y).before args s = true) (hK : xK γ s) (hP : xP γ W0 H) (hD : va_D A W0) (hS : va_S A H0 H locs) (hA : ∀ q : Nat, H0.size ≤ q → A q) (is : List Nat) (hnd : va_nd is = true) (hC : is.map (fun i => W0[i]?) = wc.map some) (hn : As.length = n) (hl : ls.size = nL) (hst : st0 = As.reverse ++ rest) (hW : (rest.map fun v => v.category).sum ≤ 8) (hdg : decode cc pc = .ok (.invokestatic index, 3)) (hcs : cells + mc ≤ R.cells ∧ slots + ms ≤ R.slots)
    (kk : ∀ (r : Option Value) (w1 : va_W) (H1 : Heap) (locs1 : List Loc), Pw r w1 → xP γ (xup W0 is w1) H1 → va_D A (xup W0 is w1) → va_S A H0 H1 locs1 → W p l e R s m args below meth c H1 locs1 (cells + mc) (slots + ms) Q (F0 m (pc + 3) ls (r.toList ++ rest))) : W p l e R s m args below meth c H locs cells slots Q (F0 m pc ls st0) := by
  have hPc : xP γ wc H := fun k q hq => by
    have h1 : (is.map (fun i => W0[i]?))[k]? = some (some q) := by rw [hC, List.getElem?_map, hq]; rfl
    rw [List.getElem?_map] at h1
    cases hi : is[k]? with
    | none => rw [hi] at h1; cases h1
    | some i => rw [hi] at h1; exact hP i q (Option.some.inj h1)
  exact xcM (va_runS (As := As) (rest := rest) S (hM H.size) cw ⟨xM_blind, fun U hU hW => ⟨rfl, by rw [hU], by rw [hU]; exact hPc, va_K.moved hW.alike hK, (hD.sub is hnd hC).weaken (fun _ _ _ _ => trivial)⟩⟩ rfl hn hl hst (lv_room hW) hdg hcs) hP hD hS hA hC kk
end X

/-! the law's own arrays: rows of int rows, rows of booleans; a contract that puts its cells anew and adds some -/
def xAO (U : State) : Prop := (Cond.arrayOver (.array .int)).before #[] U = true
theorem xAO.of {a : Array Value} {U : State} (h : (Cond.arrayOver (.array .int)).before a U = true) : xAO U := h
theorem xAO.use {a : Array Value} {U : State} (h : xAO U) : (Cond.arrayOver (.array .int)).before a U = true := h
theorem xAO.moved {u U : State} (hvm : u.vm.Alike U.vm) (h : xAO u) : xAO U := by
  obtain ⟨comp, c, k, h1, h2, h3, h4, h5⟩ := arrayOverA_spec (args := #[]) (first := u) (o := none) (s := u) (idx := []) h
  obtain ⟨k', hk', he⟩ := hvm.2.2 _ _ h3
  have hi : (U.vm.classes.findIdx? fun (x : Class) => match x.kind with | .array component _ => component == comp | _ => false) = some c := by
    refine (va_idx_bare U.vm comp).symm.trans ?_
    first | rw [hvm.bare_eq] | rw [← hvm.bare_eq]
    exact (va_idx_bare u.vm comp).trans h2
  have hkind : k'.kind = .array comp (.array .int) := by rw [he]; exact h4
  have f1 : U.vm.findClass (FieldType.array .int).toString = some comp := by rw [hvm.findClass]; exact h1
  have f2 : U.vm.findClass ("[" ++ (FieldType.array .int).toString) = some c := by rw [hvm.findClass]; exact h5
  unfold xAO Cond.before Cond.holds
  simp only [Cond.value]
  rw [f1, Option.bind_some]
  refine (congrArg (fun o : Option Nat => (o.bind (fun c => (U.vm.classes[c]?).map fun (k : Class) => match k.kind with | .array _ ty => decide (ty = FieldType.array .int) && decide (U.vm.findClass ("[" ++ (FieldType.array .int).toString) = some c) | _ => false) == some true)) hi).trans ?_
  simp [hk', hkind, f2]
/-- what the law's own methods need of the state: int rows can be cloned, and stand in rows -/
def xAz (U : State) : Prop := va_Nw (.castable "[I" "java/lang/Cloneable") U ∧ xAO U
theorem xAz.warm {s U : State} (hW : s.WarmedH U.vm) (h : xAz s) : xAz U := ⟨va_Nw.warmC hW h.1, h.2.moved hW.alike⟩
theorem xAz_blind : ∀ (a : Array Value) (U : State) (g : JFrame) (mk : MethodId), xAz U → xAz (U.calling g mk a) := fun a U g mk h => xAz.warm (s := U) (U := U.calling g mk a) (State.WarmedH.refl U) h
theorem xAI_str : (FieldType.array .int).toString = "[I" := by decide +kernel
section AR
variable {p : Program} {l : Launch} {e : Env} {R : Room} {s : State} {m : MethodId} {args : Array Value} {below : List Frame} {meth : Method} {c : Code} {H : Heap} {locs : List Loc} {cells slots : Nat} {Q : State → Prop}
variable {cc : ByteArray} {pc : Nat} {ls : Array Slot} {γ : xG} {A : Nat → Prop} {W0 : va_W} {H0 : Heap} {rest : List Value} {a v : Nat}
theorem xnm_I (hK : xK γ s) : s.vm.findClass "[I" = some γ.2.1 := va_nm_int (hK.2 0 (γ.2.1, .int) rfl).2
theorem x_newT (hx : p.tables.exec = Jvm.exec) (hb : c.code = cc) {own : String} {index : Nat} (hown : s.vm.findClass own = some m.cls) (hclink : (Cond.classLink own index "[I").before args s = true) (hover : xAO s) (hK : xK γ s) (hP : xP γ W0 H) (hD : va_D A W0) (hS : va_S A H0 H locs) (hA : ∀ q : Nat, H0.size ≤ q → A q) {n : Int32} (N : Nat) (hn : ¬ n < 0) (hN : n.toNatClampNeg = N) (hbytes : N * 4 ≤ 536870912) (hcells : cells + 1 ≤ R.cells) (hslots : slots + N ≤ R.slots) (hdg : decode cc pc = .ok (.anewarray index, 3))
    (kk : ∀ (q : Nat) (H1 : Heap), xP γ (W0 ++ [xT γ q N (fun _ => none)]) H1 → va_D A (W0 ++ [xT γ q N (fun _ => none)]) → va_S A H0 H1 locs → W p l e R s m args below meth c H1 locs (cells + 1) (slots + N) Q (F0 m (pc + 3) ls (.ref q :: rest))) : W p l e R s m args below meth c H locs cells slots Q (F0 m pc ls (.int n :: rest)) := by
  subst hN
  refine W.anewA (t := .int) hx hb hown (by rw [xAI_str]; exact hclink) hover.use rfl hdg rfl hn hbytes hcells hslots fun cA kA comp f1 f2 f3 f4 => ?_
  have e2 : s.vm.findClass ("[" ++ (FieldType.array .int).toString) = some γ.2.2.2.1 := (hK.2 2 (γ.2.2.2.1, .array .int) rfl).2
  have e3 : cA = γ.2.2.2.1 := Option.some.inj (f1.symm.trans e2)
  generalize hH1 : H.push ({ cls := cA, slots := Array.replicate n.toNatClampNeg .null, vm := .none } : Cell) = H1
  have z1 : H1.size = H.size + 1 := by rw [← hH1, Array.size_push]
  have e1 : H1[H.size]? = some (arrV cA n.toNatClampNeg (fun _ => .null)) := by rw [← hH1, Array.getElem?_push_size, ← arrV_new]
  have o1 : ∀ q : Nat, q < H.size → H1[q]? = H[q]? := fun q hq => by rw [← hH1, Array.getElem?_push, if_neg (Nat.ne_of_lt hq)]
  have hk : ∀ (k : Nat) (x : Nat × va_E), W0[k]? = some x → H1[x.1]? = H[x.1]? := fun k x hx => o1 x.1 ((hP k x hx).lt)
  refine kk H.size H1 ((hP.kept hk).app (fun k x hx => ?_)) (hD.push hP rfl (hA _ hS.1)) ⟨Nat.le_trans hS.1 (by omega), fun x h1 h2 => (o1 x (Nat.lt_of_lt_of_le h1 hS.1)).trans (hS.2.1 x h1 h2), hS.2.2⟩
  have hz : k < 1 := (List.getElem?_eq_some_iff.mp hx).1
  rw [show k = 0 by omega] at hx
  cases hx
  rw [e3] at e1
  exact e1
theorem x_tald (hx : p.tables.exec = Jvm.exec) (hb : c.code = cc) (hK : xK γ s) (hP : xP γ W0 H) (q0 : Nat) {n : Nat} {f : Nat → Option Nat} (ha : W0[q0]? = some (xT γ a n f)) {i : Int32} (k : Nat) (hi : i = nI k) (hk : k < n) (hn : n < 2 ^ 31) (hv : f k = some v) (hdg : decode cc pc = .ok (.aaload, 1))
    (kk : W p l e R s m args below meth c H locs cells slots Q (F0 m (pc + 1) ls (.ref v :: rest))) : W p l e R s m args below meth c H locs cells slots Q (F0 m pc ls (.int i :: .ref a :: rest)) := by
  subst hi
  have e1 : (nI k).toNatClampNeg = k := nI_clamp (by omega)
  have hin : vp_in (nI k) n := vp_in_nI hk hn
  exact W.aald (v := .ref v) (ty := .array .int) hx hb (hP q0 _ ha) ((hK.2 2 (γ.2.2.2.1, .array .int) rfl).1 n (fun j => va_rf (f j))) rfl (fun q => by cases q) (by show ¬ (nI k < 0 ∨ (arrV _ _ _).slots.size ≤ _); rw [arrV_size]; exact hin) (by show (arrV _ _ _).slots[_]? = _; rw [e1, arrV_read _ _ hk, hv]; rfl) rfl rfl hdg kk
theorem x_tast (hx : p.tables.exec = Jvm.exec) (hb : c.code = cc) (hover : xAO s) (hK : xK γ s) (hP : xP γ W0 H) (hD : va_D A W0) (hS : va_S A H0 H locs) (q0 qk : Nat) {n nv : Nat} {f : Nat → Option Nat} {g : xRow} (ha : W0[q0]? = some (xT γ a n f)) (hv : W0[qk]? = some (xA γ v nv g)) {i : Int32} (k : Nat) (hi : i = nI k) (hk : k < n) (hn : n < 2 ^ 31) (hdg : decode cc pc = .ok (.aastore, 1))
    (kk : ∀ (H1 : Heap) (locs1 : List Loc), xP γ (W0.set q0 (xT γ a n (va_up f k (some v)))) H1 → va_D A (W0.set q0 (xT γ a n (va_up f k (some v)))) → va_S A H0 H1 locs1 → W p l e R s m args below meth c H1 locs1 cells slots Q (F0 m (pc + 1) ls rest)) : W p l e R s m args below meth c H locs cells slots Q (F0 m pc ls (.ref v :: .int i :: .ref a :: rest)) := by
  subst hi
  have e1 : (nI k).toNatClampNeg = k := nI_clamp (by omega)
  have h0 : ¬ nI k < 0 := fun q => vp_in_nI hk hn (Or.inl q)
  obtain ⟨comp, cA, kA, h1, -, h3, h4, h5⟩ := arrayOverA_spec (args := #[]) (first := s) (o := none) (s := s) (idx := []) hover
  have e2 : s.vm.findClass ("[" ++ (FieldType.array .int).toString) = some γ.2.2.2.1 := (hK.2 2 (γ.2.2.2.1, .array .int) rfl).2
  have e3 : cA = γ.2.2.2.1 := Option.some.inj (h5.symm.trans e2)
  subst e3
  have e4 : comp = γ.2.1 := by
    rw [xAI_str] at h1
    exact Option.some.inj (h1.symm.trans (xnm_I hK))
  subst e4
  obtain ⟨-, kI, hkI, -⟩ := (hK.2 0 (γ.2.1, .int) rfl).1 nv (fun j => .int (g j))
  refine W.aast hx hb (hP q0 _ ha) (fun q h => by cases h) (fun h => by cases h) h3 h4 rfl hkI ⟨h0, by show _ < (arrV _ _ _).slots.size; rw [arrV_size, e1]; exact hk⟩ (hP qk _ hv) (fun q h => by cases h) hkI (va_asg _ _) rfl rfl hdg fun H1 e z oq => ?_
  refine kk H1 _ (hP.set hD ha ?_ oq) (hD.set ha) (hS.put z oq (hD.2 q0 _ ha))
  show H1[a]? = some (vp_cell _ _)
  rw [e, e1]
  rw [vp_cell_q, vp_cell_q, arrV_store]
  congr 2
  funext q
  by_cases hq : q = k
  · subst hq
    simp [updV, va_up, va_rf]
  · simp [updV, va_up, hq]
theorem x_cloneI (hx : p.tables.exec = Jvm.exec) (hb : c.code = cc) (hml : c.maxLocals = ls.size) {own : String} {index : Nat} (hown : s.vm.findClass own = some m.cls)
    (hlink : (Cond.methodLink own index ⟨"[I", "clone", "()Ljava/lang/Object;"⟩).before args s = true) (hsame : (Cond.sameMethod "[I" "java/lang/Object" "clone" "()Ljava/lang/Object;").before args s = true)
    (hnat : (Cond.native ⟨"java/lang/Object", "clone", "()Ljava/lang/Object;"⟩).before args s = true) (hinst : (Cond.instanceMethod ⟨"java/lang/Object", "clone", "()Ljava/lang/Object;"⟩).before args s = true)
    (hsel : (Cond.selects "[I" ⟨"[I", "clone", "()Ljava/lang/Object;"⟩ ⟨"java/lang/Object", "clone", "()Ljava/lang/Object;"⟩).before args s = true) (hcl : va_Nw (.castable "[I" "java/lang/Cloneable") s)
    (hK : xK γ s) (hP : xP γ W0 H) (hD : va_D A W0) (hS : va_S A H0 H locs) (hA : ∀ q : Nat, H0.size ≤ q → A q) (q0 : Nat) {n : Nat} {f : xRow} (ha : W0[q0]? = some (xA γ a n f))
    (hframes : 1 ≤ R.frames) (hlocals : (rest.map fun v => v.category).sum + 14 ≤ R.locals) (hcells : cells + 1 ≤ R.cells) (hslots : slots + n ≤ R.slots) (hdg : decode cc pc = .ok (.invokevirtual index, 3))
    (kk : ∀ (q : Nat) (H1 : Heap), xP γ (W0 ++ [xA γ q n f]) H1 → va_D A (W0 ++ [xA γ q n f]) → va_S A H0 H1 locs → W p l e R s m args below meth c H1 locs (cells + 1) (slots + n) Q (F0 m (pc + 3) ls (.ref q :: rest))) : W p l e R s m args below meth c H locs cells slots Q (F0 m pc ls (.ref a :: rest)) :=
  va_clone (x := (n, .inl f)) (ty := .int) hx hb hml hown hlink hsame hnat hinst hsel hcl hK hP hD hS hA q0 0 ha rfl (xnm_I hK) (va_fit (ty := .int) (F := fun j => .int (f j)) (fun _ _ => rfl)) hframes hlocals hcells hslots hdg (fun q H1 _ hP1 hD1 hS1 => kk q H1 hP1 hD1 hS1)
theorem x_castI (hx : p.tables.exec = Jvm.exec) (hb : c.code = cc) {own : String} {index : Nat} (hown : s.vm.findClass own = some m.cls) (hlink : (Cond.classLink own index "[I").before args s = true) (hK : xK γ s) (hP : xP γ W0 H) (q0 : Nat) {n : Nat} {f : xRow} (ha : W0[q0]? = some (xA γ a n f)) (hdg : decode cc pc = .ok (.checkcast index, 3))
    (k : W p l e R s m args below meth c H locs cells slots Q (F0 m (pc + 3) ls (.ref a :: rest))) : W p l e R s m args below meth c H locs cells slots Q (F0 m pc ls (.ref a :: rest)) :=
  va_castA hx hb hown hlink hP q0 ha (xnm_I hK) hdg k
theorem x_newB (hx : p.tables.exec = Jvm.exec) (hb : c.code = cc) (harr : (Cond.arrayClass .boolean).before args s = true) (hK : xK γ s) (hP : xP γ W0 H) (hD : va_D A W0) (hS : va_S A H0 H locs) (hA : ∀ q : Nat, H0.size ≤ q → A q) {n : Int32} (N : Nat) (hn : ¬ n < 0) (hN : n.toNatClampNeg = N) (hbytes : N * componentBytes .boolean ≤ 536870912) (hcells : cells + 1 ≤ R.cells) (hslots : slots + N ≤ R.slots) (hdg : decode cc pc = .ok (.newarray .boolean, 2))
    (kk : ∀ (q : Nat) (H1 : Heap), xP γ (W0 ++ [xBo γ q N (fun _ => 0)]) H1 → va_D A (W0 ++ [xBo γ q N (fun _ => 0)]) → va_S A H0 H1 locs → W p l e R s m args below meth c H1 locs (cells + 1) (slots + N) Q (F0 m (pc + 2) ls (.ref q :: rest))) : W p l e R s m args below meth c H locs cells slots Q (F0 m pc ls (.int n :: rest)) := by
  refine va_newa (atype := .boolean) hx hb harr rfl hK hP hD hS hA (a0 := (N, .inl (fun _ => 0))) (fun cA => rfl) hn hN hbytes hcells hslots hdg (fun q cA H1 hK1 hP1 hD1 hS1 => ?_)
  have e1 : va_RA s cA .boolean := (hK1.2 4 (cA, .boolean) rfl).2
  have e2 : va_RA s γ.2.2.2.2 .boolean := (hK.2 3 (γ.2.2.2.2, .boolean) rfl).2
  have e3 : cA = γ.2.2.2.2 := Option.some.inj (e1.symm.trans e2)
  obtain ⟨D, cI, cR, cT, cB⟩ := γ
  dsimp only at e3
  subst e3
  exact kk q H1 hP1 hD1 hS1
theorem x_zald (hx : p.tables.exec = Jvm.exec) (hb : c.code = cc) (hK : xK γ s) (hP : xP γ W0 H) (q0 : Nat) {n : Nat} {f : xRow} (ha : W0[q0]? = some (xBo γ a n f)) {i : Int32} (k : Nat) (hi : i = nI k) (hk : k < n) (hn : n < 2 ^ 31) (hdg : decode cc pc = .ok (.baload, 1))
    (kk : W p l e R s m args below meth c H locs cells slots Q (F0 m (pc + 1) ls (.int (f k) :: rest))) : W p l e R s m args below meth c H locs cells slots Q (F0 m pc ls (.int i :: .ref a :: rest)) := by
  subst hi
  have e1 : (nI k).toNatClampNeg = k := nI_clamp (by omega)
  refine va_zald hx hb hK hP q0 3 ha rfl (vp_in_nI hk hn) hdg ?_
  rw [e1]
  exact kk
theorem x_zast (hx : p.tables.exec = Jvm.exec) (hb : c.code = cc) (hK : xK γ s) (hP : xP γ W0 H) (hD : va_D A W0) (hS : va_S A H0 H locs) (q0 : Nat) {n : Nat} {f : xRow} (ha : W0[q0]? = some (xBo γ a n f)) {i x : Int32} (k : Nat) (hi : i = nI k) (hk : k < n) (hn : n < 2 ^ 31) (hz : x = 0 ∨ x = 1) (hdg : decode cc pc = .ok (.bastore, 1))
    (kk : ∀ (H1 : Heap) (locs1 : List Loc), xP γ (W0.set q0 (xBo γ a n (upd f k x))) H1 → va_D A (W0.set q0 (xBo γ a n (upd f k x))) → va_S A H0 H1 locs1 → W p l e R s m args below meth c H1 locs1 cells slots Q (F0 m (pc + 1) ls rest)) : W p l e R s m args below meth c H locs cells slots Q (F0 m pc ls (.int x :: .int i :: .ref a :: rest)) := by
  subst hi
  have e1 : (nI k).toNatClampNeg = k := nI_clamp (by omega)
  have e2 : vp_nar .boolean x = x := by rcases hz with h | h <;> rw [h] <;> rfl
  refine va_zast hx hb hK hP hD hS q0 3 ha rfl (vp_in_nI hk hn) hdg ?_
  rw [e1, e2]
  exact kk
end AR
/-! the contract of a method that may make cells: its world's cells come back, some of them others, and new ones behind them -/
def xCQ (γ : xG) (n : Nat) (A : Nat → Prop) (Pw : Option Value → va_W → va_W → Prop) : Array Value → State → Outcome → State → Prop := fun _ st o t =>
  (∃ (r : Option Value) (w1 wn : va_W), o = .returned r ∧ Pw r w1 wn ∧ w1.length = n ∧ xP γ (w1 ++ wn) t.heap ∧ va_D A (w1 ++ wn)) ∧ va_F A st t
def xC (γ : xG) (l : Launch) (y : MethodName) (ws : List Cond) (rm : Room) (av : List Value) (Ex : State → Prop) (wc : va_W) (Pw : Option Value → va_W → va_W → Prop) (mc ms : Nat) : Prop :=
  ∀ sz : Nat, Met l y ws rm (va_Pc av (fun U => U.heap.size = sz ∧ xP γ wc U.heap ∧ xK γ U ∧ va_D (fun _ => True) wc ∧ Ex U)) (xCQ γ wc.length (va_A wc sz) Pw) mc ms (va_A wc sz)
theorem xC.of {γ : xG} {l : Launch} {y : MethodName} {ws ws' : List Cond} {rm : Room} {av : List Value} {Ex : State → Prop} {wc : va_W} {Pw : Option Value → va_W → va_W → Prop} {mc ms : Nat} {cc : ByteArray} {maxL : Nat} {ret : Option FieldType}
    (hy : plainName y.cls = true) (hw : ws = Cond.code y cc maxL ret :: ws') (hlen : (lg_sl av).length ≤ maxL)
    (body : ∀ (p : Program) (e : Env) (s : State) (m : MethodId) (below : List Frame) (meth : Method) (c : Code), p.tables.exec = Jvm.exec → c.code = cc → meth.sig.returnType = ret → c.maxLocals = maxL → (∀ w ∈ ws, w.before av.toArray s = true) → s.vm.findClass y.cls = some m.cls → meth.locks = false → meth.name = y.name → xP γ wc s.heap → xK γ s → Ex s → ∀ A : Nat → Prop, (∀ q : Nat, s.heap.size ≤ q → A q) → (∀ q : Nat, A q → va_A wc s.heap.size q) → va_D A wc → ∀ ls : Array Slot, lv_has ls maxL (lv_args 0 av) →
      W p l e rm s m av.toArray below meth c s.heap [] 0 0 (MQ below (xCQ γ wc.length A Pw) av.toArray s mc ms A) (F0 m 0 ls [])) : xC γ l y ws rm av Ex wc Pw mc ms := by
  intro sz
  refine Met.ofW (cc := cc) (maxL := maxL) (ret := ret) hy hw ?_
  intro p e s m args below meth c s₁ B hml hv
  obtain ⟨rfl, hsz, hP, hK, hD0, hEx⟩ := hv
  subst hsz
  have hl := lv_entry av (n := maxL) hlen
  rw [lg_entry_eq]
  exact body p e s m below meth c B.exec B.bytes B.returns hml (atoms_spec (ws := ws) B.pre) (findClass_of_methodNamed B.named) B.notSynchronized (name_of_methodNamed B.named B.method).1 hP hK hEx (va_A wc s.heap.size) (fun q h => Or.inr h) (fun q h => h) (hD0.self (sz := s.heap.size)) _ hl
theorem xC.ofH {γ : xG} {l : Launch} {y : MethodName} {ws ws' : List Cond} {rm : Room} {av : List Value} {Ex : State → Prop} {wc : va_W} {Pw : Option Value → va_W → va_W → Prop} {mc ms : Nat} {cc : ByteArray} {maxL : Nat} {ret : Option FieldType} {hh : List (Nat × Nat × Nat × Nat)}
    (hy : plainName y.cls = true) (hw : ws = Cond.codeWith y cc maxL ret hh :: ws') (hlen : (lg_sl av).length ≤ maxL)
    (body : ∀ (p : Program) (e : Env) (s : State) (m : MethodId) (below : List Frame) (meth : Method) (c : Code), p.tables.exec = Jvm.exec → c.code = cc → meth.sig.returnType = ret → c.maxLocals = maxL → (∀ w ∈ ws, w.before av.toArray s = true) → s.vm.findClass y.cls = some m.cls → meth.locks = false → c.exceptionTable.toList = tableOf hh → xP γ wc s.heap → xK γ s → Ex s → ∀ A : Nat → Prop, (∀ q : Nat, s.heap.size ≤ q → A q) → (∀ q : Nat, A q → va_A wc s.heap.size q) → va_D A wc → ∀ ls : Array Slot, lv_has ls maxL (lv_args 0 av) →
      W p l e rm s m av.toArray below meth c s.heap [] 0 0 (MQ below (xCQ γ wc.length A Pw) av.toArray s mc ms A) (F0 m 0 ls [])) : xC γ l y ws rm av Ex wc Pw mc ms := by
  intro sz
  refine va_MetW (cc := cc) (maxL := maxL) (ret := ret) (hh := hh) hy hw ?_
  intro p e s m args below meth c s₁ B hml hv
  obtain ⟨rfl, hsz, hP, hK, hD0, hEx⟩ := hv
  subst hsz
  have hl := lv_entry av (n := maxL) hlen
  rw [lg_entry_eq]
  have hts := atoms_spec (ws := ws) B.pre
  exact body p e s m below meth c B.exec B.bytes B.returns hml hts (findClass_of_methodNamed B.named) B.notSynchronized (vx_table (x := y) B (hts _ (by rw [hw]; exact List.mem_cons_self))) hP hK hEx (va_A wc s.heap.size) (fun q h => Or.inr h) (fun q h => h) (hD0.self (sz := s.heap.size)) _ hl
theorem xjoinC {γ : xG} {A0 : Nat → Prop} {W0 wc w1 wn : va_W} {H H1 : Heap} {is : List Nat} (hP : xP γ W0 H) (hD : va_D A0 W0) (hC : is.map (fun i => W0[i]?) = wc.map some) (hl : w1.length = wc.length)
    (hk : ∀ q : Nat, q < H.size → ¬ va_A wc H.size q → H1[q]? = H[q]?) (hF : ∀ q : Nat, va_A wc H.size q → A0 q) (hP1 : xP γ (w1 ++ wn) H1) (hD1 : va_D (va_A wc H.size) (w1 ++ wn)) : xP γ (xup W0 is w1 ++ wn) H1 ∧ va_D A0 (xup W0 is w1 ++ wn) := by
  have hlen : is.length = w1.length := by
    have h1 := congrArg List.length hC
    simp only [List.length_map] at h1
    omega
  have at' : ∀ (j : Nat) (q : Nat × va_E), wc[j]? = some q → ∃ i, is[j]? = some i ∧ W0[i]? = some q := by
    intro j q hq
    have h1 : (is.map (fun i => W0[i]?))[j]? = some (some q) := by rw [hC, List.getElem?_map, hq]; rfl
    rw [List.getElem?_map] at h1
    cases hi : is[j]? with
    | none => rw [hi] at h1; cases h1
    | some i => rw [hi] at h1; exact ⟨i, rfl, Option.some.inj h1⟩
  have hU : (xup W0 is w1).length = W0.length := xup_len is w1 W0
  -- where a cell of the new world stood
  have was : ∀ (k : Nat) (q : Nat × va_E), (xup W0 is w1 ++ wn)[k]? = some q →
      (∃ j : Nat, (w1 ++ wn)[j]? = some q ∧ ((j < w1.length ∧ is[j]? = some k) ∨ (w1.length ≤ j ∧ k = W0.length + (j - w1.length)))) ∨ (k ∉ is ∧ k < W0.length ∧ W0[k]? = some q) := by
    intro k q hq
    by_cases hkl : k < W0.length
    · rw [List.getElem?_append_left (by omega)] at hq
      rcases xup_get is w1 W0 k q hlen hq with ⟨j, h1, h2⟩ | ⟨h1, h2⟩
      · have hj : j < w1.length := (List.getElem?_eq_some_iff.mp h2).1
        exact Or.inl ⟨j, by rw [List.getElem?_append_left hj]; exact h2, Or.inl ⟨hj, h1⟩⟩
      · exact Or.inr ⟨h1, hkl, h2⟩
    · rw [List.getElem?_append_right (by omega), hU] at hq
      exact Or.inl ⟨w1.length + (k - W0.length), by rw [List.getElem?_append_right (by omega), Nat.add_sub_cancel_left]; exact hq, Or.inr ⟨by omega, by omega⟩⟩
  have apart : ∀ (k : Nat) (q : Nat × va_E), k ∉ is → W0[k]? = some q → q.1 < H.size ∧ ¬ va_A wc H.size q.1 := by
    intro k q hn hq
    have hlt := (hP k q hq).lt
    refine ⟨hlt, fun h => ?_⟩
    rcases h with ⟨j, e, h⟩ | h
    · obtain ⟨i, g1, g2⟩ := at' j (q.1, e) h
      have hik := hD.1 i k (q.1, e) q g2 hq rfl
      subst hik
      exact hn (List.mem_of_getElem? g1)
    · omega
  refine ⟨fun k q hq => ?_, fun i j p q hp hq hpq => ?_, fun k q hq => ?_⟩
  · rcases was k q hq with ⟨j, h1, -⟩ | ⟨h1, -, h2⟩
    · exact hP1 j q h1
    · obtain ⟨g1, g2⟩ := apart k q h1 h2
      exact (hP k q h2).kept (hk q.1 g1 g2)
  · rcases was i p hp with ⟨a, h1, h2⟩ | ⟨h1, -, h2⟩ <;> rcases was j q hq with ⟨b, h3, h4⟩ | ⟨h3, -, h4⟩
    · have hab := hD1.1 a b p q h1 h3 hpq
      subst hab
      rcases h2 with ⟨l1, m1⟩ | ⟨l1, m1⟩ <;> rcases h4 with ⟨l2, m2⟩ | ⟨l2, m2⟩
      · exact Option.some.inj (m1.symm.trans m2)
      · omega
      · omega
      · omega
    · exact absurd (hpq ▸ hD1.2 a p h1) (apart j q h3 h4).2
    · exact absurd (hpq ▸ hD1.2 b q h3) (apart i p h1 h2).2
    · exact hD.1 i j p q h2 h4 hpq
  · rcases was k q hq with ⟨j, h1, -⟩ | ⟨-, -, h2⟩
    · exact hF q.1 (hD1.2 j q h1)
    · exact hD.2 k q h2
section CC
variable {p : Program} {l : Launch} {e : Env} {R : Room} {s : State} {m : MethodId} {args : Array Value} {below : List Frame} {meth : Method} {c : Code} {H : Heap} {locs : List Loc} {cells slots : Nat} {Q : State → Prop}
variable {cc : ByteArray} {pc : Nat} {ls : Array Slot} {γ : xG} {A : Nat → Prop} {W0 wc Wa Wb : va_W} {Pw : Option Value → va_W → va_W → Prop} {mc ms k9 : Nat} {st0 rest As : List Value} {a : Array Value} {Ex : State → Prop} {y : MethodName} {bytes : ByteArray} {maxL nL index n : Nat} {ret : Option FieldType} {hh : List (Nat × Nat × Nat × Nat)} {ws Ts : List Cond} {rm : Room} {own : String} {b : Addr}
theorem xC_i {x : Int32} (hx : p.tables.exec = Jvm.exec) (hb : c.code = cc) (hr : meth.sig.returnType = some .int) (hlocks : meth.locks = false) (hdg : decode cc pc = .ok (.ireturn, 1)) (hP : xP γ (Wa ++ Wb) H) (hD : va_D A (Wa ++ Wb)) (hn : Wa.length = k9) (hS : va_S A s.heap H locs) (hc : cells ≤ mc) (hs : slots ≤ ms) (hp : Pw (some (.int x)) Wa Wb) : W p l e R s m args below meth c H locs cells slots (MQ below (xCQ γ k9 A Pw) args s mc ms A) (F0 m pc ls [.int x]) :=
  W.widen hc hs (W.iret hx hb hr (fun t ht _ => ⟨⟨_, Wa, Wb, rfl, hp, hn, by rw [ht]; exact hP, hD⟩, hS.F ht⟩) hS.2.2 hdg hlocks)
theorem xC_z {x : Int32} (hx : p.tables.exec = Jvm.exec) (hb : c.code = cc) (hr : meth.sig.returnType = some .boolean) (hlocks : meth.locks = false) (hdg : decode cc pc = .ok (.ireturn, 1)) (hz : x = 0 ∨ x = 1) (hP : xP γ (Wa ++ Wb) H) (hD : va_D A (Wa ++ Wb)) (hn : Wa.length = k9) (hS : va_S A s.heap H locs) (hc : cells ≤ mc) (hs : slots ≤ ms) (hp : Pw (some (.int x)) Wa Wb) : W p l e R s m args below meth c H locs cells slots (MQ below (xCQ γ k9 A Pw) args s mc ms A) (F0 m pc ls [.int x]) :=
  W.widen hc hs (W.zret hx hb hr (by rcases hz with h | h <;> rw [h] <;> rfl) (fun t ht _ => ⟨⟨_, Wa, Wb, rfl, hp, hn, by rw [ht]; exact hP, hD⟩, hS.F ht⟩) hS.2.2 hdg hlocks)
theorem xC_a {x : Nat} {rt : FieldType} (hx : p.tables.exec = Jvm.exec) (hb : c.code = cc) (hr : meth.sig.returnType = some rt) (hrt : (∃ n, rt = .object n) ∨ ∃ t, rt = .array t) (hlocks : meth.locks = false) (hdg : decode cc pc = .ok (.areturn, 1)) (hP : xP γ (Wa ++ Wb) H) (hD : va_D A (Wa ++ Wb)) (hn : Wa.length = k9) (hS : va_S A s.heap H locs) (hc : cells ≤ mc) (hs : slots ≤ ms) (hp : Pw (some (.ref x)) Wa Wb) : W p l e R s m args below meth c H locs cells slots (MQ below (xCQ γ k9 A Pw) args s mc ms A) (F0 m pc ls [.ref x]) :=
  W.widen hc hs (W.aret hx hb hr hrt (Or.inr ⟨_, rfl⟩) (fun t ht _ => ⟨⟨_, Wa, Wb, rfl, hp, hn, by rw [ht]; exact hP, hD⟩, hS.F ht⟩) hS.2.2 hdg hlocks)
theorem xC_v (hx : p.tables.exec = Jvm.exec) (hb : c.code = cc) (hr : meth.sig.returnType = none) (hlocks : meth.locks = false) (hdg : decode cc pc = .ok (.return_, 1)) (hP : xP γ (Wa ++ Wb) H) (hD : va_D A (Wa ++ Wb)) (hn : Wa.length = k9) (hS : va_S A s.heap H locs) (hc : cells ≤ mc) (hs : slots ≤ ms) (hp : Pw none Wa Wb) : W p l e R s m args below meth c H locs cells slots (MQ below (xCQ γ k9 A Pw) args s mc ms A) (F0 m pc ls []) :=
  W.widen hc hs (W.vret hx hb hr (fun t ht _ => ⟨⟨_, Wa, Wb, rfl, hp, hn, by rw [ht]; exact hP, hD⟩, hS.F ht⟩) hS.2.2 hdg hlocks)
theorem xcC {H0 : Heap} {is : List Nat} (hr : va_Run p l e R s m args below meth c H locs cells slots mc ms (F0 m pc ls st0) rest (xCQ γ wc.length (va_A wc H.size) Pw a) (va_A wc H.size)) (hP : xP γ W0 H) (hD : va_D A W0) (hS : va_S A H0 H locs) (hA : ∀ q : Nat, H0.size ≤ q → A q) (hC : is.map (fun i => W0[i]?) = wc.map some)
    (kk : ∀ (r : Option Value) (w1 wn : va_W) (H1 : Heap) (locs1 : List Loc), Pw r w1 wn → xP γ (xup W0 is w1 ++ wn) H1 → va_D A (xup W0 is w1 ++ wn) → va_S A H0 H1 locs1 → W p l e R s m args below meth c H1 locs1 (cells + mc) (slots + ms) Q (F0 m (pc + 3) ls (r.toList ++ rest))) : W p l e R s m args below meth c H locs cells slots Q (F0 m pc ls st0) := by
  intro T hT X
  obtain ⟨v, st₀, t, T', L, h0, X', hL, e1, e2, ⟨⟨r, w1, wn, hv, hp, hn, hP1, hD1⟩, hz, hk⟩, st⟩ := hr T hT X
  cases hv
  rw [h0] at hz hk
  have hF := va_free (wc := wc) hD hS hA is hC
  obtain ⟨hP2, hD2⟩ := xjoinC hP hD hC hn (fun q h1 h2 => hk q h1 h2) hF hP1 hD1
  obtain ⟨t2, a1, b1⟩ := kk v w1 wn T'.heap (locs ++ L) hp (by rw [e1]; exact hP2) hD2
    ⟨Nat.le_trans hS.1 (by rw [e1]; exact hz), fun q h1 h2 => by rw [e1, hk q (Nat.lt_of_lt_of_le h1 hS.1) (fun z => h2 (hF q z))]; exact hS.2.1 q h1 h2, fun q hq => by
      rcases List.mem_append.mp hq with h | h
      · exact hS.2.2 q h
      · exact hF _ (hL q h)⟩ T' rfl X'
  exact ⟨t2, st t2 a1, b1⟩
theorem xPcut {is : List Nat} (hP : xP γ W0 H) (hC : is.map (fun i => W0[i]?) = wc.map some) : xP γ wc H := fun k q hq => by
  have h1 : (is.map (fun i => W0[i]?))[k]? = some (some q) := by rw [hC, List.getElem?_map, hq]; rfl
  rw [List.getElem?_map] at h1
  cases hi : is[k]? with
  | none => rw [hi] at h1; cases h1
  | some i => rw [hi] at h1; exact hP i q (Option.some.inj h1)
theorem xC_blind {av : List Value} {sz : Nat} (hEb : ∀ (a : Array Value) (U : State) (g : JFrame) (mk : MethodId), Ex U → Ex (U.calling g mk a)) : FrameBlind (va_Pc av (fun U => U.heap.size = sz ∧ xP γ wc U.heap ∧ xK γ U ∧ va_D (fun _ => True) wc ∧ Ex U)) :=
  fun a U g mk q => ⟨q.1, q.2.1, q.2.2.1, va_K.moved (u := U) (U := U.calling g mk a) (Vm.Alike.refl U.vm) q.2.2.2.1, q.2.2.2.2.1, hEb a U g mk q.2.2.2.2.2⟩
/-- calls of such methods: of an object's, of a static one, of a static one that catches -/
theorem xVC {H0 : Heap} {q0 ci : Nat} {fv : List Value} {qc : vw_C} (S : CallFix p m c cc nL s args Ts own) (hM : xC γ l y ws rm (.ref b :: As) Ex wc Pw mc ms) (cw : CallW R s args own qc.1 index y bytes maxL ret ws rm mc ms n) (hEb : ∀ (a : Array Value) (U : State) (g : JFrame) (mk : MethodId), Ex U → Ex (U.calling g mk a)) (hEx : ∀ U : State, U.heap = H → s.WarmedH U.vm → Ex U) (hK : xK γ s) (hP : xP γ W0 H) (hD : va_D A W0) (hS : va_S A H0 H locs) (hA : ∀ q : Nat, H0.size ≤ q → A q) (is : List Nat) (hnd : va_nd is = true) (hC : is.map (fun i => W0[i]?) = wc.map some) (he : W0[q0]? = some (b, .inr (ci, fv))) (hc : vwCl[ci]? = some qc) (hn : As.length = n) (hl : ls.size = nL) (hst : st0 = As.reverse ++ .ref b :: rest) (hW : (rest.map fun v => v.category).sum ≤ 8) (hdg : decode cc pc = .ok (.invokevirtual index, 3)) (hcs : cells + mc ≤ R.cells ∧ slots + ms ≤ R.slots)
    (kk : ∀ (r : Option Value) (w1 wn : va_W) (H1 : Heap) (locs1 : List Loc), Pw r w1 wn → xP γ (xup W0 is w1 ++ wn) H1 → va_D A (xup W0 is w1 ++ wn) → va_S A H0 H1 locs1 → W p l e R s m args below meth c H1 locs1 (cells + mc) (slots + ms) Q (F0 m (pc + 3) ls (r.toList ++ rest))) : W p l e R s m args below meth c H locs cells slots Q (F0 m pc ls st0) :=
  xcC (va_runV (As := As) (rest := rest) S (hM H.size) cw ⟨xC_blind hEb, va_recv hK hP hc he, fun U hU hW => ⟨rfl, by rw [hU], by rw [hU]; exact xPcut hP hC, va_K.moved hW.alike hK, (hD.sub is hnd hC).weaken (fun _ _ _ _ => trivial), hEx U hU hW⟩⟩ rfl hn hl hst (lv_room hW) hdg hcs) hP hD hS hA hC kk
theorem xSC {H0 : Heap} (S : CallFix p m c cc nL s args Ts own) (hM : xC γ l y ws rm As Ex wc Pw mc ms) (cw : CallB R s args own index y bytes maxL ret ws rm mc ms n ∧ (Cond.static y).before args s = true) (hEb : ∀ (a : Array Value) (U : State) (g : JFrame) (mk : MethodId), Ex U → Ex (U.calling g mk a)) (hEx : ∀ U : State, U.heap = H → s.WarmedH U.vm → Ex U) (hK : xK γ s) (hP : xP γ W0 H) (hD : va_D A W0) (hS : va_S A H0 H locs) (hA : ∀ q : Nat, H0.size ≤ q → A q) (is : List Nat) (hnd : va_nd is = true) (hC : is.map (fun i => W0[i]?) = wc.map some) (hn : As.length = n) (hl : ls.size = nL) (hst : st0 = As.reverse ++ rest) (hW : (rest.map fun v => v.category).sum ≤ 8) (hdg : decode cc pc = .ok (.invokestatic index, 3)) (hcs : cells + mc ≤ R.cells ∧ slots + ms ≤ R.slots)
    (kk : ∀ (r : Option Value) (w1 wn : va_W) (H1 : Heap) (locs1 : List Loc), Pw r w1 wn → xP γ (xup W0 is w1 ++ wn) H1 → va_D A (xup W0 is w1 ++ wn) → va_S A H0 H1 locs1 → W p l e R s m args below meth c H1 locs1 (cells + mc) (slots + ms) Q (F0 m (pc + 3) ls (r.toList ++ rest))) : W p l e R s m args below meth c H locs cells slots Q (F0 m pc ls st0) :=
  xcC (va_runS (As := As) (rest := rest) S (hM H.size) cw ⟨xC_blind hEb, fun U hU hW => ⟨rfl, by rw [hU], by rw [hU]; exact xPcut hP hC, va_K.moved hW.alike hK, (hD.sub is hnd hC).weaken (fun _ _ _ _ => trivial), hEx U hU hW⟩⟩ rfl hn hl hst (lv_room hW) hdg hcs) hP hD hS hA hC kk
theorem xSCH {H0 : Heap} (S : CallFix p m c cc nL s args Ts own) (hM : xC γ l y ws rm As Ex wc Pw mc ms) (cw : vx_CSW R s args own index y bytes maxL ret hh ws rm mc ms n) (hEb : ∀ (a : Array Value) (U : State) (g : JFrame) (mk : MethodId), Ex U → Ex (U.calling g mk a)) (hEx : ∀ U : State, U.heap = H → s.WarmedH U.vm → Ex U) (hK : xK γ s) (hP : xP γ W0 H) (hD : va_D A W0) (hS : va_S A H0 H locs) (hA : ∀ q : Nat, H0.size ≤ q → A q) (is : List Nat) (hnd : va_nd is = true) (hC : is.map (fun i => W0[i]?) = wc.map some) (hn : As.length = n) (hl : ls.size = nL) (hst : st0 = As.reverse ++ rest) (hW : (rest.map fun v => v.category).sum ≤ 8) (hdg : decode cc pc = .ok (.invokestatic index, 3)) (hcs : cells + mc ≤ R.cells ∧ slots + ms ≤ R.slots)
    (kk : ∀ (r : Option Value) (w1 wn : va_W) (H1 : Heap) (locs1 : List Loc), Pw r w1 wn → xP γ (xup W0 is w1 ++ wn) H1 → va_D A (xup W0 is w1 ++ wn) → va_S A H0 H1 locs1 → W p l e R s m args below meth c H1 locs1 (cells + mc) (slots + ms) Q (F0 m (pc + 3) ls (r.toList ++ rest))) : W p l e R s m args below meth c H locs cells slots Q (F0 m pc ls st0) :=
  xcC (vx_runSW (As := As) (rest := rest) S (hM H.size) cw ⟨xC_blind hEb, fun U hU hW => ⟨rfl, by rw [hU], by rw [hU]; exact xPcut hP hC, va_K.moved hW.alike hK, (hD.sub is hnd hC).weaken (fun _ _ _ _ => trivial), hEx U hU hW⟩⟩ rfl hn hl hst (lv_room hW) hdg hcs) hP hD hS hA hC kk
end CC

/-! the law's own helpers: they call, and catch; Ex: what else of the state they need -/
def xEn (U : State) : Prop := va_Nc "java/lang/IllegalArgumentException" "java/lang/IndexOutOfBoundsException" U ∧ va_Nc "java/lang/IllegalStateException" "java/lang/IndexOutOfBoundsException" U
def xW1 (sa : Nat → Nat) (U : State) : Prop := xE sa U ∧ xEn U
theorem xW1_blind {sa : Nat → Nat} : ∀ (a : Array Value) (U : State) (g : JFrame) (mk : MethodId), xW1 sa U → xW1 sa (U.calling g mk a) := fun a U g mk h => ⟨xE.warm (s := U) (U := U.calling g mk a) (State.WarmedH.refl U) rfl h.1, va_Nc.moved (u := U) (U := U.calling g mk a) (Vm.Alike.refl U.vm) h.2.1, va_Nc.moved (u := U) (U := U.calling g mk a) (Vm.Alike.refl U.vm) h.2.2⟩
def xME (γ : xG) (l : Launch) (y : MethodName) (ws : List Cond) (rm : Room) (av : List Value) (Ex : State → Prop) (wc : va_W) (Pw : Option Value → va_W → Prop) (mc ms : Nat) : Prop :=
  ∀ sz : Nat, Met l y ws rm (va_Pc av (fun U => U.heap.size = sz ∧ xP γ wc U.heap ∧ xK γ U ∧ va_D (fun _ => True) wc ∧ Ex U)) (xMQ γ (wc.map Prod.fst) (va_A wc sz) Pw) mc ms (va_A wc sz)
theorem xME.ofH {γ : xG} {l : Launch} {y : MethodName} {ws ws' : List Cond} {rm : Room} {av : List Value} {Ex : State → Prop} {wc : va_W} {Pw : Option Value → va_W → Prop} {mc ms : Nat} {cc : ByteArray} {maxL : Nat} {ret : Option FieldType} {hh : List (Nat × Nat × Nat × Nat)}
    (hy : plainName y.cls = true) (hw : ws = Cond.codeWith y cc maxL ret hh :: ws') (hlen : (lg_sl av).length ≤ maxL)
    (body : ∀ (p : Program) (e : Env) (s : State) (m : MethodId) (below : List Frame) (meth : Method) (c : Code), p.tables.exec = Jvm.exec → c.code = cc → meth.sig.returnType = ret → c.maxLocals = maxL → (∀ w ∈ ws, w.before av.toArray s = true) → s.vm.findClass y.cls = some m.cls → meth.locks = false → c.exceptionTable.toList = tableOf hh → xP γ wc s.heap → xK γ s → Ex s → ∀ A : Nat → Prop, (∀ q : Nat, s.heap.size ≤ q → A q) → va_D A wc → ∀ ls : Array Slot, lv_has ls maxL (lv_args 0 av) →
      W p l e rm s m av.toArray below meth c s.heap [] 0 0 (MQ below (xMQ γ (wc.map Prod.fst) A Pw) av.toArray s mc ms A) (F0 m 0 ls [])) : xME γ l y ws rm av Ex wc Pw mc ms := by
  intro sz
  refine va_MetW (cc := cc) (maxL := maxL) (ret := ret) (hh := hh) hy hw ?_
  intro p e s m args below meth c s₁ B hml hv
  obtain ⟨rfl, hsz, hP, hK, hD0, hEx⟩ := hv
  subst hsz
  have hl := lv_entry av (n := maxL) hlen
  rw [lg_entry_eq]
  have hts := atoms_spec (ws := ws) B.pre
  exact body p e s m below meth c B.exec B.bytes B.returns hml hts (findClass_of_methodNamed B.named) B.notSynchronized (vx_table (x := y) B (hts _ (by rw [hw]; exact List.mem_cons_self))) hP hK hEx (va_A wc s.heap.size) (fun q h => Or.inr h) (hD0.self (sz := s.heap.size)) _ hl
section E
variable {p : Program} {l : Launch} {e : Env} {R : Room} {s : State} {m : MethodId} {args : Array Value} {below : List Frame} {meth : Method} {c : Code} {H : Heap} {locs : List Loc} {cells slots : Nat} {Q : State → Prop}
variable {cc : ByteArray} {pc : Nat} {ls : Array Slot} {γ : xG} {A : Nat → Prop} {W0 wc : va_W} {Pw : Option Value → va_W → Prop} {mc ms : Nat} {st0 rest As : List Value} {Ex : State → Prop} {y : MethodName} {bytes : ByteArray} {maxL nL index n : Nat} {ret : Option FieldType} {hh : List (Nat × Nat × Nat × Nat)} {ws Ts : List Cond} {rm : Room} {own : String}
/-- a call of such a helper -/
theorem xSME {H0 : Heap} (S : CallFix p m c cc nL s args Ts own) (hM : xME γ l y ws rm As Ex wc Pw mc ms) (cw : vx_CSW R s args own index y bytes maxL ret hh ws rm mc ms n) (hEb : ∀ (a : Array Value) (U : State) (g : JFrame) (mk : MethodId), Ex U → Ex (U.calling g mk a)) (hEx : ∀ U : State, U.heap = H → s.WarmedH U.vm → Ex U) (hK : xK γ s) (hP : xP γ W0 H) (hD : va_D A W0) (hS : va_S A H0 H locs) (hA : ∀ q : Nat, H0.size ≤ q → A q) (is : List Nat) (hnd : va_nd is = true) (hC : is.map (fun i => W0[i]?) = wc.map some) (hn : As.length = n) (hl : ls.size = nL) (hst : st0 = As.reverse ++ rest) (hW : (rest.map fun v => v.category).sum ≤ 8) (hdg : decode cc pc = .ok (.invokestatic index, 3)) (hcs : cells + mc ≤ R.cells ∧ slots + ms ≤ R.slots)
    (kk : ∀ (r : Option Value) (w1 : va_W) (H1 : Heap) (locs1 : List Loc), Pw r w1 → xP γ (xup W0 is w1) H1 → va_D A (xup W0 is w1) → va_S A H0 H1 locs1 → W p l e R s m args below meth c H1 locs1 (cells + mc) (slots + ms) Q (F0 m (pc + 3) ls (r.toList ++ rest))) : W p l e R s m args below meth c H locs cells slots Q (F0 m pc ls st0) := by
  have hPc : xP γ wc H := fun k q hq => by
    have h1 : (is.map (fun i => W0[i]?))[k]? = some (some q) := by rw [hC, List.getElem?_map, hq]; rfl
    rw [List.getElem?_map] at h1
    cases hi : is[k]? with
    | none => rw [hi] at h1; cases h1
    | some i => rw [hi] at h1; exact hP i q (Option.some.inj h1)
  refine xcM (vx_runSW (As := As) (rest := rest) S (hM H.size) cw ⟨?_, ?_⟩ rfl hn hl hst (lv_room hW) hdg hcs) hP hD hS hA hC kk
  · exact fun a U g mk q => ⟨q.1, q.2.1, q.2.2.1, va_K.moved (u := U) (U := U.calling g mk a) (Vm.Alike.refl U.vm) q.2.2.2.1, q.2.2.2.2.1, hEb a U g mk q.2.2.2.2.2⟩
  · exact fun U hU hW => ⟨rfl, by rw [hU], by rw [hU]; exact hPc, va_K.moved hW.alike hK, (hD.sub is hnd hC).weaken (fun _ _ _ _ => trivial), hEx U hU hW⟩
end E
theorem xkept {γ : xG} {W0 : va_W} {H H1 : Heap} (hP : xP γ W0 H) (h : ∀ q : Nat, q < H.size → H1[q]? = H[q]?) : xP γ W0 H1 := hP.kept (fun k q hq => h q.1 (hP k q hq).lt)
theorem xover : ∀ (K K' B : va_W), K.length = K'.length → xup (B ++ K) (List.range' B.length K'.length) K' = B ++ K'
  | [], [], _, _ => rfl
  | [], _ :: _, _, h => by simp at h
  | _ :: _, [], _, h => by simp at h
  | a :: K, a' :: K', B, h => by
    rw [List.length_cons, List.range'_succ]
    show xup ((B ++ a :: K).set B.length a') (List.range' (B.length + 1) K'.length) K' = _
    rw [List.set_append_right _ _ (Nat.le_refl _), Nat.sub_self, List.set_cons_zero]
    have h1 := xover K K' (B ++ [a']) (by simpa using h)
    rw [List.length_append, List.length_singleton, List.append_assoc, List.singleton_append, List.append_assoc, List.singleton_append] at h1
    exact h1
theorem xup_suf2 {base K K' w1 : va_W} {nb : Nat} {is1 : List Nat} (hb : base.length = nb) (hK : K.length = 12) (hK' : K'.length = 12) (hl : is1.length = w1.length) (hlt : ∀ i ∈ is1, i < nb) : xup (base ++ K) (is1 ++ List.range' nb 12) (w1 ++ K') = xup base is1 w1 ++ K' := by
  subst hb
  rw [xup_app is1 w1 _ _ _ hl, xup_left is1 w1 base K hlt]
  have h := xover K K' (xup base is1 w1) (hK.trans hK'.symm)
  rw [xup_len, hK'] at h
  exact h

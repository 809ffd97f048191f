/-! bad calls: what a method throws; all that the heap held before stands in it behind -/
def xEv (U : State) : Prop :=
  va_Nw (.castable "java/lang/IndexOutOfBoundsException" "java/lang/IndexOutOfBoundsException") U ∧ va_Nw (.castable "java/lang/IllegalArgumentException" "java/lang/IllegalArgumentException") U ∧ va_Nw (.castable "java/lang/IllegalStateException" "java/lang/IllegalStateException") U ∧
  va_Nw (.declares ⟨"java/lang/RuntimeException", "<init>", "(Ljava/lang/String;)V"⟩) U ∧ va_Nw (.declares ⟨"java/lang/Exception", "<init>", "(Ljava/lang/String;)V"⟩) U ∧ va_Nw (.declares ⟨"java/lang/Throwable", "<init>", "(Ljava/lang/String;)V"⟩) U
def xEs (sa : Nat → Nat) (U : State) : Prop :=
  vk_R RX2 39 "places is not 3 to 12" (sa 39) U ∧ vk_R RX2 82 "there are 6 targets" (sa 82) U ∧ vk_R RX2 93 "steps is not 1 to 200" (sa 93) U ∧ vk_R RX2 223 "there is no such place" (sa 223) U ∧ vk_R RX2 226 "number is not -999 to 999" (sa 226) U ∧ vk_R RX2 228 "times is not -50 to 50" (sa 228) U ∧ vk_R RX2 230 "the target cannot be reached" (sa 230) U ∧ vk_R RX2 232 "there is no such target" (sa 232) U
theorem xEs.lay {sa : Nat → Nat} {U : State} (h : xEs sa U) : vk_R RX2 39 "places is not 3 to 12" (sa 39) U := h.1
theorem xEs.keep {sa : Nat → Nat} {U : State} (h : xEs sa U) : vk_R RX2 82 "there are 6 targets" (sa 82) U := h.2.1
theorem xEs.settle {sa : Nat → Nat} {U : State} (h : xEs sa U) : vk_R RX2 93 "steps is not 1 to 200" (sa 93) U := h.2.2.1
theorem xEs.place {sa : Nat → Nat} {U : State} (h : xEs sa U) : vk_R RX2 223 "there is no such place" (sa 223) U := h.2.2.2.1
theorem xEs.number {sa : Nat → Nat} {U : State} (h : xEs sa U) : vk_R RX2 226 "number is not -999 to 999" (sa 226) U := h.2.2.2.2.1
theorem xEs.times {sa : Nat → Nat} {U : State} (h : xEs sa U) : vk_R RX2 228 "times is not -50 to 50" (sa 228) U := h.2.2.2.2.2.1
theorem xEs.way {sa : Nat → Nat} {U : State} (h : xEs sa U) : vk_R RX2 230 "the target cannot be reached" (sa 230) U := h.2.2.2.2.2.2.1
theorem xEs.target {sa : Nat → Nat} {U : State} (h : xEs sa U) : vk_R RX2 232 "there is no such target" (sa 232) U := h.2.2.2.2.2.2.2
def xEh (A : Nat → Prop) (U : State) (H : Heap) : Prop := vx_Zq Bundle.tN "UNASSIGNED_STACK" Bundle.steD A U H ∧ vx_Zq Bundle.tN "SUPPRESSED_SENTINEL" Bundle.listD A U H
def xE (sa : Nat → Nat) (U : State) : Prop := xEv U ∧ xEs sa U ∧ xEh (fun _ => False) U U.heap
theorem xEv.warm {s U : State} (hW : s.WarmedH U.vm) (h : xEv s) : xEv U := ⟨va_Nw.warmC hW h.1, va_Nw.warmC hW h.2.1, va_Nw.warmC hW h.2.2.1, va_Nw.warmD hW h.2.2.2.1, va_Nw.warmD hW h.2.2.2.2.1, va_Nw.warmD hW h.2.2.2.2.2⟩
theorem xEs.warm {sa : Nat → Nat} {s U : State} (hW : s.WarmedH U.vm) (h : xEs sa s) : xEs sa U := ⟨h.lay.warm hW, h.keep.warm hW, h.settle.warm hW, h.place.warm hW, h.number.warm hW, h.times.warm hW, h.way.warm hW, h.target.warm hW⟩
theorem xEh.moved {A : Nat → Prop} {s U : State} {H : Heap} (hW : s.vm.Alike U.vm) (h : xEh A s H) : xEh A U H := ⟨vx_Zq.moved hW h.1, vx_Zq.moved hW h.2⟩
theorem xEh.kept {A : Nat → Prop} {s : State} {H H1 : Heap} (h : xEh A s H) (hq : ∀ a : Nat, a < H.size → ¬ A a → H1[a]? = H[a]?) : xEh A s H1 := ⟨vx_Zq.kept h.1 hq, vx_Zq.kept h.2 hq⟩
theorem xEh.narrow {A B : Nat → Prop} {s : State} {H : Heap} (h : xEh A s H) (hAB : ∀ q, B q → A q) : xEh B s H := ⟨vx_Zq.narrow h.1 hAB, vx_Zq.narrow h.2 hAB⟩
/-- the surroundings of a call at the heap H, out of those at the heap H0 of the start -/
theorem xE.at {sa : Nat → Nat} {A : Nat → Prop} {s U : State} {H0 H : Heap} {locs : List Loc} (hW : s.WarmedH U.vm) (hU : U.heap = H) (hv : xEv s) (hs : xEs sa s) (hh : xEh A s H0) (hS : va_S A H0 H locs) : xE sa U :=
  ⟨hv.warm hW, hs.warm hW, by rw [hU]; exact ((hh.kept hS.2.1).narrow (fun _ h => h.elim)).moved hW.alike⟩
theorem xE.warm {sa : Nat → Nat} {s U : State} (hW : s.WarmedH U.vm) (hU : U.heap = s.heap) (h : xE sa s) : xE sa U := ⟨h.1.warm hW, h.2.1.warm hW, by rw [hU]; exact h.2.2.moved hW.alike⟩
def xXQ (E : String) : String → State → State → Prop := fun E9 st t => E9 = E ∧ st.heap.size ≤ t.heap.size ∧ ∀ q : Nat, q < st.heap.size → t.heap[q]? = st.heap[q]?
def xX (γ : xG) (l : Launch) (y : MethodName) (ws : List Cond) (rm : Room) (av : List Value) (sa : Nat → Nat) (wc : va_W) (E : String) : Prop :=
  vx_Met l y ws rm (va_Pc av (fun U => xP γ wc U.heap ∧ xK γ U ∧ xE sa U)) (fun _ _ _ _ => False) (xXQ E) 1 6 (fun _ => False)
theorem xX.of {γ : xG} {l : Launch} {y : MethodName} {ws ws' : List Cond} {rm : Room} {av : List Value} {sa : Nat → Nat} {wc : va_W} {E : String} {cc : ByteArray} {maxL : Nat} {ret : Option FieldType}
    (hy : plainName y.cls = true) (hw : ws = Cond.code y cc maxL ret :: ws') (hlen : (lg_sl av).length ≤ maxL)
    (body : ∀ (p : Program) (e : Env) (s : State) (m : MethodId) (below : List Frame) (meth : Method) (c : Code), p.tables.exec = Jvm.exec → c.code = cc → meth.sig.returnType = ret → c.maxLocals = maxL → (∀ w ∈ ws, w.before av.toArray s = true) → s.vm.findClass y.cls = some m.cls → meth.locks = false → xP γ wc s.heap → xK γ s → xE sa s → (∀ x ∈ c.exceptionTable.toList, False) → ∀ ls : Array Slot, lv_has ls maxL (lv_args 0 av) →
      W p l e rm s m av.toArray below meth c s.heap [] 0 0 (vx_MQ below (fun _ _ _ _ => False) (xXQ E) av.toArray s 1 6 (fun _ => False)) (F0 m 0 ls [])) : xX γ l y ws rm av sa wc E := by
  refine vx_ofW (cc := cc) (maxL := maxL) (ret := ret) hy hw ?_
  intro p e s m args below meth c s₁ B hml ht hv
  obtain ⟨rfl, hP, hK, hE⟩ := hv
  have hl := lv_entry av (n := maxL) hlen
  rw [lg_entry_eq]
  exact body p e s m below meth c B.exec B.bytes B.returns hml (atoms_spec (ws := ws) B.pre) (findClass_of_methodNamed B.named) B.notSynchronized hP hK hE ht _ hl
theorem xX_blind {γ : xG} {av : List Value} {sa : Nat → Nat} {wc : va_W} : FrameBlind (va_Pc av (fun U => xP γ wc U.heap ∧ xK γ U ∧ xE sa U)) := fun a U g mk q => ⟨q.1, q.2.1, va_K.moved (u := U) (U := U.calling g mk a) (Vm.Alike.refl U.vm) q.2.2.1, xE.warm (s := U) (U := U.calling g mk a) (State.WarmedH.refl U) rfl q.2.2.2⟩
section XX
variable {p : Program} {l : Launch} {e : Env} {R : Room} {s : State} {m : MethodId} {args : Array Value} {below : List Frame} {meth : Method} {c : Code} {H : Heap} {locs : List Loc} {cells slots : Nat} {Q : State → Prop}
variable {cc : ByteArray} {pc : Nat} {ls : Array Slot} {γ : xG} {W0 wc : va_W} {st0 rest As : List Value} {sa : Nat → Nat} {E : String} {nL n index maxL : Nat} {y : MethodName} {bytes : ByteArray} {ret : Option FieldType} {ws Ts : List Cond} {rm : Room} {own : String} {b : Addr}
/-- 'throw new E(text)' at a method's very heap -/
theorem xX_throw {text : String} {ik is ic : Nat} {B : List Cond} (hx : p.tables.exec = Jvm.exec) (hb : c.code = cc) (hlt : l.stackTraces = false) (hown : s.vm.findClass own = some m.cls) (hcls : Bundle.fit E = true) (hts : ∀ w ∈ Ts, w.before args s = true)
    (hk : Cond.classLink own ik E ∈ Ts) (hini : Cond.initialized E ∈ Ts) (hstr : vk_R own is text (sa is) s) (hat : ∀ w ∈ (vx_atS own ic E ["java/lang/RuntimeException", "java/lang/Exception"]).filter goodWord, w ∈ Ts)
    (hb2 : ∀ w ∈ (vx_atS own ic E ["java/lang/RuntimeException", "java/lang/Exception"]).filter (fun w => !goodWord w), w ∈ B) (hB : ∀ w ∈ B, w.before args s = true) (hgood : ∀ w ∈ Cond.classLink own ik E :: Cond.initialized E :: vx_atS own ic E ["java/lang/RuntimeException", "java/lang/Exception"], vx_ot w = true)
    (hE : xE sa s) (hml : c.maxLocals = maxL) (hl : ls.size = maxL) (d0 : decode cc pc = .ok (.new ik, 3)) (d3 : decode cc (pc + 3) = .ok (.dup, 1)) (d4 : decode cc (pc + 4) = .ok (.ldc is, 2)) (d6 : decode cc (pc + 6) = .ok (.invokespecial ic, 3)) (d9 : decode cc (pc + 9) = .ok (.athrow, 1))
    (ht : ∀ x ∈ c.exceptionTable.toList, False) (hlocks : meth.locks = false) (hRf : 6 ≤ R.frames) (hRl : (rest.map fun v => v.category).sum + 82 ≤ R.locals) (hRc : 1 ≤ R.cells) (hRs : 6 ≤ R.slots) :
    W p l e R s m args below meth c s.heap [] 0 0 (vx_MQ below (fun _ _ _ _ => False) (xXQ E) args s 1 6 (fun _ => False)) (F0 m pc ls rest) :=
  vx_throwS (A := fun _ => False) (names := ["java/lang/RuntimeException", "java/lang/Exception"]) hx hb hlt hown hcls (by decide +kernel) (hts _ hk) (hts _ hini) hstr (vx_hat (B := B) (fun w hw => hts w (hat w hw)) hb2 hB) hgood hE.2.2.1 hE.2.2.2 va_S.rf (hl.trans hml.symm) d0 d3 d4 d6 d9 (fun x hx => (ht x hx).elim)
    (show 2 + 3 < R.frames by omega) (show (rest.map fun v => v.category).sum + (13 * (2 + 1) + 43) ≤ R.locals by omega) (by omega) (by omega) hlocks (fun t _ hz hk => ⟨rfl, hz, hk⟩) (fun _ h => nomatch h) (Nat.le_refl _) (Nat.le_refl _)
theorem xBadI {args : Array Value} (h : xEv s) : ∀ w ∈ [Cond.castable "java/lang/IndexOutOfBoundsException" "java/lang/IndexOutOfBoundsException", Cond.declares ⟨"java/lang/RuntimeException", "<init>", "(Ljava/lang/String;)V"⟩, Cond.declares ⟨"java/lang/Exception", "<init>", "(Ljava/lang/String;)V"⟩, Cond.declares ⟨"java/lang/Throwable", "<init>", "(Ljava/lang/String;)V"⟩], w.before args s = true :=
  vx_c (va_Nw.use rfl h.1) (vx_c (va_Nw.use rfl h.2.2.2.1) (vx_c (va_Nw.use rfl h.2.2.2.2.1) (vx_c (va_Nw.use rfl h.2.2.2.2.2) vx_n)))
theorem xBadA {args : Array Value} (h : xEv s) : ∀ w ∈ [Cond.castable "java/lang/IllegalArgumentException" "java/lang/IllegalArgumentException", Cond.declares ⟨"java/lang/RuntimeException", "<init>", "(Ljava/lang/String;)V"⟩, Cond.declares ⟨"java/lang/Exception", "<init>", "(Ljava/lang/String;)V"⟩, Cond.declares ⟨"java/lang/Throwable", "<init>", "(Ljava/lang/String;)V"⟩], w.before args s = true :=
  vx_c (va_Nw.use rfl h.2.1) (vx_c (va_Nw.use rfl h.2.2.2.1) (vx_c (va_Nw.use rfl h.2.2.2.2.1) (vx_c (va_Nw.use rfl h.2.2.2.2.2) vx_n)))
theorem xBadS {args : Array Value} (h : xEv s) : ∀ w ∈ [Cond.castable "java/lang/IllegalStateException" "java/lang/IllegalStateException", Cond.declares ⟨"java/lang/RuntimeException", "<init>", "(Ljava/lang/String;)V"⟩, Cond.declares ⟨"java/lang/Exception", "<init>", "(Ljava/lang/String;)V"⟩, Cond.declares ⟨"java/lang/Throwable", "<init>", "(Ljava/lang/String;)V"⟩], w.before args s = true :=
  vx_c (va_Nw.use rfl h.2.2.1) (vx_c (va_Nw.use rfl h.2.2.2.1) (vx_c (va_Nw.use rfl h.2.2.2.2.1) (vx_c (va_Nw.use rfl h.2.2.2.2.2) vx_n)))
/-- a call of a method that throws -/
theorem xXV {q0 ci : Nat} {fv : List Value} {qc : vw_C} (S : CallFix p m c cc nL s args Ts own) (hM : xX γ l y ws rm (.ref b :: As) sa wc E) (cw : CallW R s args own qc.1 index y bytes maxL ret ws rm 1 6 n) (hK : xK γ s) (hP : xP γ W0 H) (hE : ∀ U : State, U.heap = H → s.WarmedH U.vm → xE sa U) (is : List Nat) (hC : is.filterMap (fun i => W0[i]?) = wc) (he : W0[q0]? = some (b, .inr (ci, fv))) (hc : vwCl[ci]? = some qc) (hn : As.length = n) (hl : ls.size = nL) (hst : st0 = As.reverse ++ .ref b :: rest) (hW : (rest.map fun v => v.category).sum ≤ 8) (hdg : decode cc pc = .ok (.invokevirtual index, 3)) (hcs : cells + 1 ≤ R.cells ∧ slots + 6 ≤ R.slots)
    (kk : ∀ (H1 : Heap) (ce : Cell) (q9 : Addr), H.size ≤ H1.size → (∀ q : Nat, q < H.size → H1[q]? = H[q]?) → H1[q9]? = some ce → ce.vm = .none → s.vm.findClass E = some ce.cls → vx_W p l e R s m args below meth c H1 locs (cells + 1) (slots + 6) Q (F0 m pc ls rest) q9) : W p l e R s m args below meth c H locs cells slots Q (F0 m pc ls st0) := by
  have hr := vx_runV (p := p) (l := l) (e := e) (below := below) (meth := meth) (H := H) (locs := locs) (cells := cells) (slots := slots) (g := F0 m pc ls st0) (As := As) (rest := rest) S hM cw ⟨xX_blind, va_recv hK hP hc he, fun U hU hW => ⟨rfl, by rw [hU]; exact hP.sub is hC, va_K.moved hW.alike hK, hE U hU hW⟩⟩ rfl hn hl hst (lv_room hW) hdg hcs
  intro T hT X
  rcases hr T hT X with ⟨v, st₀, t, T', L, h0, X', hL, e1, e2, h9, st⟩ | ⟨q, st₀, t, T', L, E9, ce, h0, X', hL, e1, e2, ⟨rfl, hz, hk⟩, hce, hcv, hcl, st⟩
  · exact h9.elim
  · rw [h0] at hz hk
    obtain ⟨t2, a1, b1⟩ := kk T'.heap ce q (by rw [e1]; exact hz) (fun q hq => by rw [e1]; exact hk q hq) (by rw [e1]; exact hce) hcv hcl T' rfl (Stand.forget X' (fun q h => (hL q h).elim))
    exact ⟨t2, st.trans a1, b1⟩
end XX
theorem xpl_bad {n : Nat} {x : Int32} (hn1 : n ≤ 12) (h : xInB x 0 (nI n - 1) = false) (c9 : ¬ x < 0) : ¬ x < nI n := by
  intro h2
  obtain ⟨j, hj, rfl⟩ := nI_of c9
  have h3 := xIn_pl (k := j) (n := n) ((nI_ltI hj (by omega)).mp h2) hn1
  rw [h] at h3
  exact absurd h3 (by decide)
theorem xin_bad {a b x : Int32} (h : xInB x a b = false) (c9 : ¬ x < a) : ¬ x ≤ b := by
  intro h2
  have h3 := xInB_le c9 h2
  rw [h] at h3
  exact absurd h3 (by decide)

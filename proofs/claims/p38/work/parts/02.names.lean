/-! ===== BEGIN words of one list among another's, by their places ===== -/
theorem goodIn_r {big : List Cond} (ws : List Cond) (ps : List Nat) (hp : ws = ps.filterMap (fun i => big[i]?)) (h : ws.all goodWord = true) : GoodIn big ws := by
  intro w hw
  have h1 := List.all_eq_true.mp h w hw
  rw [hp] at hw
  obtain ⟨i, -, hi⟩ := List.mem_filterMap.mp hw
  have hm : w ∈ big := by first | exact List.mem_of_getElem? hi | exact List.getElem?_mem hi
  exact ⟨hm, good_of_word h1⟩
theorem goodIn_app {big a b : List Cond} (ha : GoodIn big a) (hb : GoodIn big b) : GoodIn big (a ++ b) := fun w h => (List.mem_append.mp h).elim (ha w) (hb w)
theorem goodIn_ca {big a b : List Cond} {c : Cond} (ha : GoodIn big (c :: a)) (hb : GoodIn big b) : GoodIn big (c :: (a ++ b)) := fun w h => (List.mem_cons.mp h).elim (fun e => ha w (List.mem_cons.mpr (Or.inl e))) (fun h => (List.mem_append.mp h).elim (fun h => ha w (List.mem_cons.mpr (Or.inr h))) (hb w))
theorem goodIn_sub {big ws : List Cond} (hm : ∀ w ∈ ws, w ∈ big) (h : ws.all goodWord = true) : GoodIn big ws := fun w hw => ⟨hm w hw, good_of_word (List.all_eq_true.mp h w hw)⟩
/-! ===== END ===== -/

/-! ===== BEGIN exceptions that leave a method, and their catching by the caller (launches without stack traces) ===== -/
section VXA
/-! The laws vx_back, vx_callV, vx_callS, vx_callSW, vx_throw0, vx_throwS follow proofs of the library, with one case more: JvmDerived/Free/Laws.lean (Back.of_free), Shelf42/LK1.lean (callV, callS), Shelf/KitTraced.lean (throwNew0V, throwNewS). -/
/-- where a method has thrown q: the class by its name, the cell, what was written, the world -/
def vx_T (XC : String → State → State → Prop) (st : State) (q : Addr) (t : State) (mc ms : Nat) (free : Addr → Prop) : Prop :=
  ∃ (E : String) (ce : Cell) (L : List Loc), XC E st t ∧ t.heap[q]? = some ce ∧ ce.vm = .none ∧ st.vm.findClass E = some ce.cls ∧ st.WarmedH t.vm ∧ st.sameButNew ({ t with vm := st.vm } : State) L mc ms ∧ ∀ z ∈ L, free z.base
def vx_Q (Qc : Array Value → State → Outcome → State → Prop) (XC : String → State → State → Prop) (mc ms : Nat) (free : Addr → Prop) : Array Value → State → Outcome → State → Prop := fun a st o t =>
  (Qc a st o t ∧ ∃ L, FrameEnd st o t L mc ms ∧ ∀ q ∈ L, free q.base) ∨ ∃ q, o = .threw q ∧ vx_T XC st q t mc ms free
/-- a callee that returns or throws -/
def vx_Met (l : Launch) (y : MethodName) (ws : List Cond) (rm : Room) (Pc : Array Value → State → Prop) (Qc : Array Value → State → Outcome → State → Prop) (XC : String → State → State → Prop) (mc ms : Nat) (free : Addr → Prop) : Prop :=
  MetFree l y (headSpec ws rm) Pc (fun _ _ _ _ _ => True) (vx_Q Qc XC mc ms free)
def vx_Post (XC : String → State → State → Prop) (mc ms : Nat) (free : Addr → Prop) : Pt → Array Value → Addr → Pt → Prop := fun A a q B =>
  ∃ (g : JFrame) (mk : MethodId) (t : State) (L : List Loc) (E : String) (ce : Cell), B.U.heap = t.heap ∧ B.U.vm = t.vm ∧ XC E (A.U.calling g mk a) t ∧ t.heap[q]? = some ce ∧ ce.vm = .none ∧ A.U.vm.findClass E = some ce.cls ∧ B.locs = A.locs ++ L ∧ (∀ z ∈ L, free z.base) ∧ B.cells = A.cells + mc ∧ B.slots = A.slots + ms
def vx_Back (l : Launch) (R : Room) (p : Program) (e : Env) (below : List Frame) (s : State) (sargs : Array Value) (y : MethodName) (len W9 : Nat)
    (Pre : Pt → Array Value → Prop) (Post : Pt → Array Value → Option Value → Pt → Prop) (PostX : Pt → Array Value → Addr → Pt → Prop) : Prop :=
  ∀ (m : MethodId) (meth : Method) (c : Code) (A : Pt) (g : JFrame) (ig : Instr) (mk : MethodId) (a : Array Value),
    Stand p l e R s m sargs below meth c A.U A.locs A.cells A.slots → g.method = m → g.locals.size = c.maxLocals → decode c.code g.pc = .ok (ig, len) →
    2 * g.monitorRoom + (g.stack.map fun v => v.category).sum ≤ W9 → A.U.methodNamed? y = some mk → Pre A a →
    (∃ (v : Option Value) (B : Pt), Stand p l e R s m sargs below meth c B.U B.locs B.cells B.slots ∧ Post A a v B ∧
      Steps p.tables e below (doInvoke e (A.U.setTop g) [] mk a).1 (B.U.setTop { g with pc := g.pc + len, stack := v.toList ++ g.stack })) ∨
    (∃ (q : Addr) (B : Pt), Stand p l e R s m sargs below meth c B.U B.locs B.cells B.slots ∧ PostX A a q B ∧
      Steps p.tables e below (doInvoke e (A.U.setTop g) [] mk a).1 ((B.U.setTop g).pushFrame (.throwing q)))
section Payer
variable {l : Launch} {R : Room} {p : Program} {e : Env} {below : List Frame} {s : State} {sargs : Array Value} {y : MethodName} {len W9 : Nat}
theorem vx_back {ws : List Cond} {rm : Room} {Pc : Array Value → State → Prop} {Qc : Array Value → State → Outcome → State → Prop} {XC : String → State → State → Prop} {mc ms : Nat} {free : Addr → Prop} {bytes : ByteArray} {maxL : Nat} {ret : Option FieldType}
    (hM : vx_Met l y ws rm Pc Qc XC mc ms free) (hblind : FrameBlind Pc) (hrc : rm.cells = mc) (hrs : rm.slots = ms)
    (hframes : rm.frames + 1 ≤ R.frames) (hlocals : W9 + (maxL + 11) + rm.locals ≤ R.locals)
    (hws : ∀ w ∈ ws, ∀ a' U, s.WarmedH U.vm → w.before a' U = true) (hcode : Cond.code y bytes maxL ret ∈ ws) (hinit : ∀ a' U, s.WarmedH U.vm → (Cond.initialized y.cls).before a' U = true) :
    vx_Back l R p e below s sargs y len W9 (PreOf R mc ms Pc) (PostOf Qc mc ms free) (vx_Post XC mc ms free) := by
  intro m meth c A g ig mk a X hg hsize hdg hW hn hp
  have h1 : (headSpec ws rm).pre.before a A.U = true := atoms_intro fun w hw => hws w hw _ _ X.warmed
  have h2 : (Cond.code y bytes maxL ret).before a A.U = true := hws _ hcode _ _ X.warmed
  have h3 : (Cond.initialized y.cls).before a A.U = true := hinit _ _ X.warmed
  have h4 : A.cells + (headSpec ws rm).room.cells ≤ R.cells := by rw [show (headSpec ws rm).room.cells = mc from hrc]; exact hp.1
  have h5 : A.slots + (headSpec ws rm).room.slots ≤ R.slots := by rw [show (headSpec ws rm).room.slots = ms from hrs]; exact hp.2.1
  have hPc : Pc a (A.U.calling g mk a) := hblind _ _ _ _ hp.2.2
  obtain ⟨U, Ls, c0, s0⟩ := A
  dsimp only [Pt.U, Pt.locs, Pt.cells, Pt.slots] at h1 h2 h3 h4 h5 X hn hPc ⊢
  obtain ⟨methY, cY, hmY, hcY, -, hlY, -, -, -, -⟩ := Cond.code_spec hn h2
  obtain ⟨kY, hkY, -⟩ := className_of_methodNamed hn
  have hinitY : kY.init = .initialized := Cond.initialized_spec (findClass_of_methodNamed hn) hkY h3
  have h : At U g.method c below := by rw [hg]; exact X.here
  have hlocals9 : W9 + (maxL + 11) + (headSpec ws rm).room.locals ≤ R.locals := hlocals
  have happ : (headSpec ws rm).appliesLoose y e.platform (U.calling g mk a) = true :=
    Spec.appliesLoose_calling (g := g) h hdg hn hkY hinitY
      (X.room_calling (g := g) (R' := (headSpec ws rm).room) hsize hmY hcY hframes (by rw [hlY]; omega) h4 h5) h1
  obtain ⟨mid, hmid⟩ := h.above
  have hfr : (U.setTop g).frames = (.java g :: mid) ++ below := by rw [State.frames_setTop' g h.top, hmid]; rfl
  obtain ⟨o, s₂, hsteps, -, hend, hq⟩ := Steps.callFree hM p X.admits X.cas X.clock (acts := []) hfr happ hPc trivial
  have hq' : vx_Q Qc XC mc ms free a (U.calling g mk a) o s₂ := hq
  rw [State.frames_setTop' g h.top] at hend
  obtain ⟨g₀, hg0⟩ := Option.isSome_iff_exists.mp h.top
  obtain ⟨r, hr⟩ := State.topJava?_eq_some.mp hg0
  have hr' : (({ U with heap := s₂.heap, slotsUsed := s₂.slotsUsed } : State).setVm s₂.vm).frames = .java g₀ :: r := hr
  rcases hq' with ⟨hqc, L, hfe, hL⟩ | ⟨q, rfl, E, ce, L, hx, hce, hcv, hcl, hW₂, hsm, hL⟩
  · obtain ⟨⟨v, rfl⟩, hW₂, e2, q2, q3, q4, q5, q6⟩ := id hfe
    have e3 : s₂ = ({ (U.calling g mk a).setFrames s₂.frames with heap := s₂.heap, slotsUsed := s₂.slotsUsed } : State).setVm s₂.vm := by
      have : s₂ = ({ s₂ with vm := (U.calling g mk a).vm } : State).setVm s₂.vm := rfl
      rw [e2] at this
      exact this
    obtain ⟨c₂, i₂, len₂, hc₂, hd₂, hf₂⟩ := hend
    have hW' : U.WarmedH s₂.vm := hW₂
    have hcc : c₂ = c := by
      have h1 : s₂.code? g.method = U.code? g.method := by
        rw [State.code?_eq, State.code?_eq, hW'.alike.method?]
      exact Option.some.inj (hc₂.symm.trans (h1.trans h.code))
    subst hcc
    have hlen : len₂ = len := by rw [hdg] at hd₂; cases hd₂; rfl
    subst hlen
    have hs₂ : s₂ = (({ U with heap := s₂.heap, slotsUsed := s₂.slotsUsed } : State).setVm s₂.vm).setTop { g with pc := g.pc + len₂, stack := v.toList ++ g.stack } := by
      refine e3.trans ?_
      rw [hf₂, State.calling_eq h.top, State.setFrames_setFrames, State.setTop_of_frames _ hr', hr]
      rfl
    have hsame : U.sameButNew ({ U with heap := s₂.heap, slotsUsed := s₂.slotsUsed } : State) L mc ms := by
      refine ⟨?_, q2, q3, q4, q5, q6⟩
      obtain ⟨t, ht, -⟩ := State.frames_cons hr
      show ({ U with heap := s₂.heap, slotsUsed := s₂.slotsUsed } : State) = { U.setFrames U.frames with heap := s₂.heap, slotsUsed := s₂.slotsUsed }
      rw [State.setFrames_self ht]
    subst hg
    refine Or.inl ⟨v, ⟨(({ U with heap := s₂.heap, slotsUsed := s₂.slotsUsed } : State).setVm s₂.vm), Ls ++ L, c0 + mc, s0 + ms⟩,
      ⟨X.admits, X.cas, X.clock, X.frames, X.room, X.hears, X.method, X.code, (X.here.setHeapUsed s₂.heap s₂.slotsUsed).setVm hW'.alike, X.tail, State.WarmedH.trans X.warmed hW', X.limits, X.bytes, X.same.trans (hsame.setVm s.vm)⟩,
      ⟨g, mk, s₂, L, rfl, rfl, hqc, rfl, hL, rfl, rfl⟩, ?_⟩
    show Steps p.tables e below _ ((({ U with heap := s₂.heap, slotsUsed := s₂.slotsUsed } : State).setVm s₂.vm).setTop { g with pc := g.pc + len₂, stack := v.toList ++ g.stack })
    rw [← hs₂]
    exact hsteps
  · obtain ⟨e2, q2, q3, q4, q5, q6⟩ := id hsm
    have e3 : s₂ = ({ (U.calling g mk a).setFrames s₂.frames with heap := s₂.heap, slotsUsed := s₂.slotsUsed } : State).setVm s₂.vm := by
      have : s₂ = ({ s₂ with vm := (U.calling g mk a).vm } : State).setVm s₂.vm := rfl
      rw [e2] at this
      exact this
    have hf₂ : s₂.frames = .throwing q :: .java g :: U.frames.tail := hend
    have hW' : U.WarmedH s₂.vm := hW₂
    have hs₂ : s₂ = ((({ U with heap := s₂.heap, slotsUsed := s₂.slotsUsed } : State).setVm s₂.vm).setTop g).pushFrame (.throwing q) := by
      refine e3.trans ?_
      rw [hf₂, State.calling_eq h.top, State.setFrames_setFrames, State.pushFrame, State.frames_setTop _ hr', State.setTop_of_frames _ hr', State.setFrames_setFrames, hr]
      rfl
    have hsame : U.sameButNew ({ U with heap := s₂.heap, slotsUsed := s₂.slotsUsed } : State) L mc ms := by
      refine ⟨?_, q2, q3, q4, q5, q6⟩
      obtain ⟨t, ht, -⟩ := State.frames_cons hr
      show ({ U with heap := s₂.heap, slotsUsed := s₂.slotsUsed } : State) = { U.setFrames U.frames with heap := s₂.heap, slotsUsed := s₂.slotsUsed }
      rw [State.setFrames_self ht]
    subst hg
    refine Or.inr ⟨q, ⟨(({ U with heap := s₂.heap, slotsUsed := s₂.slotsUsed } : State).setVm s₂.vm), Ls ++ L, c0 + mc, s0 + ms⟩,
      ⟨X.admits, X.cas, X.clock, X.frames, X.room, X.hears, X.method, X.code, (X.here.setHeapUsed s₂.heap s₂.slotsUsed).setVm hW'.alike, X.tail, State.WarmedH.trans X.warmed hW', X.limits, X.bytes, X.same.trans (hsame.setVm s.vm)⟩,
      ⟨g, mk, s₂, L, E, ce, rfl, rfl, hx, hce, hcv, hcl, rfl, hL, rfl, rfl⟩, ?_⟩
    show Steps p.tables e below _ (((({ U with heap := s₂.heap, slotsUsed := s₂.slotsUsed } : State).setVm s₂.vm).setTop g).pushFrame (.throwing q))
    rw [← hs₂]
    exact hsteps
end Payer
section Calls
variable {p : Program} {l : Launch} {e : Env} {R : Room} {s : State} {m : MethodId} {args : Array Value} {below : List Frame} {meth : Method} {c : Code} {T : State} {locs : List Loc} {cells slots : Nat}
theorem vx_callV (X : Stand p l e R s m args below meth c T locs cells slots) (hexec : p.tables.exec = Jvm.exec) {own C : String} {index : Nat} {y : MethodName} {bytes : ByteArray} {maxL : Nat} {ret : Option FieldType}
    (hown : s.vm.findClass own = some m.cls) (hlink : (Cond.methodLink own index y).before args s = true) (hinst : (Cond.instanceMethod y).before args s = true) (hsel : (Cond.selects C y y).before args s = true)
    (hcode : (Cond.code y bytes maxL ret).before args s = true) (hy : y.cls ≠ "java/lang/invoke/MethodHandle" ∧ y.cls ≠ "java/lang/invoke/VarHandle")
    {W9 : Nat} {Pre : Pt → Array Value → Prop} {Post : Pt → Array Value → Option Value → Pt → Prop} {PostX : Pt → Array Value → Addr → Pt → Prop} (hK : vx_Back l R p e below s args y 3 W9 Pre Post PostX)
    {b : Addr} {cellB : Cell} (hcell : T.heap[b]? = some cellB) (hobj : cellB.vm.isStatics = false) (hcls : s.vm.findClass C = some cellB.cls)
    {g : JFrame} (hg : g.method = m) (hsize : g.locals.size = c.maxLocals) {argsL rest : List Value} (hlen : ∀ sig, parseMethodDescriptor y.desc = some sig → argsL.length = sig.parameters.length)
    (hstack : g.stack = argsL.reverse ++ .ref b :: rest) (hW : 2 * g.monitorRoom + (rest.map fun v => v.category).sum ≤ W9) (hdg : decode c.code g.pc = .ok (.invokevirtual index, 3))
    (hpre : ∀ vm₁, s.WarmedH vm₁ → Pre ⟨T.setVm vm₁, locs, cells, slots⟩ (Value.ref b :: argsL).toArray) :
    (∃ (v : Option Value) (vm₁ : Vm) (B : Pt), s.WarmedH vm₁ ∧ Stand p l e R s m args below meth c B.U B.locs B.cells B.slots ∧ Post ⟨T.setVm vm₁, locs, cells, slots⟩ (Value.ref b :: argsL).toArray v B ∧
      ∀ target, Steps p.tables e below (B.U.setTop { g with pc := g.pc + 3, stack := v.toList ++ rest }) target → Steps p.tables e below (T.setTop g) target) ∨
    (∃ (q : Addr) (vm₁ : Vm) (B : Pt), s.WarmedH vm₁ ∧ Stand p l e R s m args below meth c B.U B.locs B.cells B.slots ∧ PostX ⟨T.setVm vm₁, locs, cells, slots⟩ (Value.ref b :: argsL).toArray q B ∧
      Steps p.tables e below (T.setTop g) ((B.U.setTop { g with stack := rest }).pushFrame (.throwing q))) := by
  obtain ⟨mk, methM, hnamed, hmethM, hstM, habM⟩ := Cond.instanceMethod_spec hinst
  obtain ⟨methM', cM, hmethM', -, -, -, -, -, -, hsigM⟩ := Cond.code_spec hnamed hcode
  cases hmethM.symm.trans hmethM'
  obtain ⟨c2, r2, m2, q1, q2, q3, q4, kP, hkP, hkPi⟩ := Cond.selects_spec hsel
  cases hcls.symm.trans q1
  cases (State.methodFound?_of_named hnamed hy).symm.trans q2
  cases hnamed.symm.trans q3
  have hselP : selectMethod e.platform s.vm cellB.cls mk = .method mk := by rw [Launch.admits_selectMethod X.admits]; exact q4
  obtain ⟨vm₁, X₁, hstep₁⟩ := X.invokevirtual hexec hown hlink hnamed hmethM hstM hkP hkPi hy (a := b) (cell := cellB) hcell
    (fun z h => by rw [h] at hobj; cases hobj) hselP hmethM habM hkP hkPi (g := g) hg (argsL := argsL) (rest := rest) (hlen _ hsigM) hstack hdg
  rcases hK m meth c ⟨T.setVm vm₁, locs, cells, slots⟩ { g with stack := rest } (.invokevirtual index) mk (Value.ref b :: argsL).toArray X₁ hg hsize hdg hW (X₁.named hnamed) (hpre vm₁ X₁.warmed) with ⟨v, B, X', hpost, hsteps⟩ | ⟨q, B, X', hpost, hsteps⟩
  · exact Or.inl ⟨v, vm₁, B, X₁.warmed, X', hpost, fun target h => hstep₁ _ fun acts => by rw [doInvoke_state]; exact hsteps.trans h⟩
  · exact Or.inr ⟨q, vm₁, B, X₁.warmed, X', hpost, hstep₁ _ fun acts => by rw [doInvoke_state]; exact hsteps⟩
theorem vx_callS (X : Stand p l e R s m args below meth c T locs cells slots) (hexec : p.tables.exec = Jvm.exec) {own : String} {index : Nat} {y : MethodName} {bytes : ByteArray} {maxL : Nat} {ret : Option FieldType}
    (hown : s.vm.findClass own = some m.cls) (hlink : (Cond.methodLink own index y).before args s = true) (hstat : (Cond.static y).before args s = true) (hinit : (Cond.initialized y.cls).before args s = true)
    (hcode : (Cond.code y bytes maxL ret).before args s = true) (hy : y.cls ≠ "java/lang/invoke/MethodHandle" ∧ y.cls ≠ "java/lang/invoke/VarHandle")
    {W9 : Nat} {Pre : Pt → Array Value → Prop} {Post : Pt → Array Value → Option Value → Pt → Prop} {PostX : Pt → Array Value → Addr → Pt → Prop} (hK : vx_Back l R p e below s args y 3 W9 Pre Post PostX)
    {g : JFrame} (hg : g.method = m) (hsize : g.locals.size = c.maxLocals) {argsL rest : List Value} (hlen : ∀ sig, parseMethodDescriptor y.desc = some sig → argsL.length = sig.parameters.length)
    (hstack : g.stack = argsL.reverse ++ rest) (hW : 2 * g.monitorRoom + (rest.map fun v => v.category).sum ≤ W9) (hdg : decode c.code g.pc = .ok (.invokestatic index, 3))
    (hpre : ∀ vm₁, s.WarmedH vm₁ → Pre ⟨T.setVm vm₁, locs, cells, slots⟩ argsL.toArray) :
    (∃ (v : Option Value) (vm₁ : Vm) (B : Pt), s.WarmedH vm₁ ∧ Stand p l e R s m args below meth c B.U B.locs B.cells B.slots ∧ Post ⟨T.setVm vm₁, locs, cells, slots⟩ argsL.toArray v B ∧
      ∀ target, Steps p.tables e below (B.U.setTop { g with pc := g.pc + 3, stack := v.toList ++ rest }) target → Steps p.tables e below (T.setTop g) target) ∨
    (∃ (q : Addr) (vm₁ : Vm) (B : Pt), s.WarmedH vm₁ ∧ Stand p l e R s m args below meth c B.U B.locs B.cells B.slots ∧ PostX ⟨T.setVm vm₁, locs, cells, slots⟩ argsL.toArray q B ∧
      Steps p.tables e below (T.setTop g) ((B.U.setTop { g with stack := rest }).pushFrame (.throwing q))) := by
  obtain ⟨mk, hnamed⟩ := Cond.code_named hcode
  obtain ⟨methM, cM, hmethM, -, -, -, -, -, -, hsigM⟩ := Cond.code_spec hnamed hcode
  have hstatic : methM.isStatic = true := Cond.static_spec hnamed hmethM hstat
  obtain ⟨kP, hkP, -⟩ := className_of_methodNamed hnamed
  have hinitP : kP.init = .initialized := Cond.initialized_spec (findClass_of_methodNamed hnamed) hkP hinit
  obtain ⟨vm₁, X₁, hstep₁⟩ := X.invokestatic hexec hown hlink hnamed hmethM hstatic hkP hinitP hy (g := g) hg (argsL := argsL) (rest := rest) (hlen _ hsigM) hstack hdg
  rcases hK m meth c ⟨T.setVm vm₁, locs, cells, slots⟩ { g with stack := rest } (.invokestatic index) mk argsL.toArray X₁ hg hsize hdg hW (X₁.named hnamed) (hpre vm₁ X₁.warmed) with ⟨v, B, X', hpost, hsteps⟩ | ⟨q, B, X', hpost, hsteps⟩
  · exact Or.inl ⟨v, vm₁, B, X₁.warmed, X', hpost, fun target h => hstep₁ _ fun acts => by rw [doInvoke_state]; exact hsteps.trans h⟩
  · exact Or.inr ⟨q, vm₁, B, X₁.warmed, X', hpost, hstep₁ _ fun acts => by rw [doInvoke_state]; exact hsteps⟩
end Calls
theorem vx_cls {s : State} {T : State} {vm₁ : Vm} {E : String} {k : ClassId} (hW : s.WarmedH vm₁) (h : (T.setVm vm₁).vm.findClass E = some k) : s.vm.findClass E = some k := by
  have h1 : vm₁.findClass E = some k := h
  rw [hW.alike.findClass] at h1
  exact h1
/-- the method's frame g, with q thrown over it -/
def vx_W (p : Program) (l : Launch) (e : Env) (R : Room) (s : State) (m : MethodId) (args : Array Value) (below : List Frame) (meth : Method) (c : Code) (H : Heap) (locs : List Loc) (cells slots : Nat) (Q : State → Prop) (g : JFrame) (q : Addr) : Prop :=
  ∀ T : State, T.heap = H → Stand p l e R s m args below meth c T locs cells slots → ∃ t, Steps p.tables e below ((T.setTop g).pushFrame (.throwing q)) t ∧ Q t
def vx_Run (p : Program) (l : Launch) (e : Env) (R : Room) (s : State) (m : MethodId) (args : Array Value) (below : List Frame) (meth : Method) (c : Code) (H : Heap) (locs : List Loc) (cells slots mc ms : Nat) (g : JFrame) (rest : List Value) (Qa : State → Outcome → State → Prop) (XC : String → State → State → Prop) (free : Addr → Prop) : Prop :=
  ∀ T : State, T.heap = H → Stand p l e R s m args below meth c T locs cells slots →
    (∃ (v : Option Value) (st₀ t T' : State) (L : List Loc), st₀.heap = H ∧ Stand p l e R s m args below meth c T' (locs ++ L) (cells + mc) (slots + ms) ∧ (∀ q ∈ L, free q.base) ∧ T'.heap = t.heap ∧ T'.vm = t.vm ∧ Qa st₀ (.returned v) t ∧
      Goes p e below T g T' { g with pc := g.pc + 3, stack := v.toList ++ rest }) ∨
    (∃ (q : Addr) (st₀ t T' : State) (L : List Loc) (E : String) (ce : Cell), st₀.heap = H ∧ Stand p l e R s m args below meth c T' (locs ++ L) (cells + mc) (slots + ms) ∧ (∀ z ∈ L, free z.base) ∧ T'.heap = t.heap ∧ T'.vm = t.vm ∧ XC E st₀ t ∧ t.heap[q]? = some ce ∧ ce.vm = .none ∧ s.vm.findClass E = some ce.cls ∧
      Steps p.tables e below (T.setTop g) ((T'.setTop { g with stack := rest }).pushFrame (.throwing q)))
def vx_X {S : Type} (px : S → Prop) (B : String → S → State → Prop) (A : Nat → Prop) : String → State → State → Prop := fun E st t => ∃ u : S, px u ∧ B E u t ∧ va_F A st t
section Runs
variable {p : Program} {l : Launch} {e : Env} {R : Room} {s : State} {m : MethodId} {args : Array Value} {below : List Frame} {meth : Method} {c : Code} {H : Heap} {locs : List Loc} {cells slots : Nat}
variable {y : MethodName} {bytes cc : ByteArray} {maxL nL mc ms n index : Nat} {ret : Option FieldType} {ws : List Cond} {rm : Room} {Pc : Array Value → State → Prop} {Qc : Array Value → State → Outcome → State → Prop} {XC : String → State → State → Prop} {free : Addr → Prop} {Ts : List Cond} {own C : String} {b : Addr} {As rest : List Value} {g : JFrame}
theorem vx_callBack (cb : CallB R s args own index y bytes maxL ret ws rm mc ms n) (hM : vx_Met l y ws rm Pc Qc XC mc ms free) (hbl : FrameBlind Pc) : vx_Back l R p e below s args y 3 8 (PreOf R mc ms Pc) (PostOf Qc mc ms free) (vx_Post XC mc ms free) := by
  obtain ⟨hrc, hrs, hfr, hlo, hws, hcw, -, hini, -⟩ := cb
  exact vx_back (bytes := bytes) (maxL := maxL) (ret := ret) hM hbl hrc hrs hfr hlo hws hcw (fun a' U hW => word_at hW (Or.inl (by first | rfl | simp [Cond.onTables, Cond.keeps, Cond.steady])) hini)
theorem vx_runV (S : CallFix p m c cc nL s args Ts own) (hM : vx_Met l y ws rm Pc Qc XC mc ms free) (cw : CallW R s args own C index y bytes maxL ret ws rm mc ms n) (hp : PreV s H C b Pc As)
    (hg : g.method = m) (hn : As.length = n) (hsize : g.locals.size = nL) (hstack : g.stack = As.reverse ++ .ref b :: rest) (hW : 2 * g.monitorRoom + (rest.map fun v => v.category).sum ≤ 8) (hdg : decode cc g.pc = .ok (.invokevirtual index, 3)) (hf : cells + mc ≤ R.cells ∧ slots + ms ≤ R.slots) :
    vx_Run p l e R s m args below meth c H locs cells slots mc ms g rest (Qc (Value.ref b :: As).toArray) XC free := by
  have hK : vx_Back l R p e below s args y 3 8 (PreOf R mc ms Pc) (PostOf Qc mc ms free) (vx_Post XC mc ms free) := vx_callBack cw.1 hM hp.1
  obtain ⟨⟨-, -, -, -, -, -, hcode, -, hy, hlen, hl⟩, hin, hse⟩ := cw
  obtain ⟨hx, hb, hml, ho, -⟩ := S
  obtain ⟨-, ⟨cellB, hcB, hoB, hclB⟩, hPc⟩ := hp
  intro T hT X
  rcases vx_callV X hx (C := C) (bytes := bytes) (maxL := maxL) (ret := ret) ho hl hin hse hcode hy hK (by rw [hT]; exact hcB) hoB hclB hg (hsize.trans hml.symm) (argsL := As) (rest := rest) (fun sig h => hn.trans (hlen sig h)) hstack hW (by rw [hb]; exact hdg)
    (fun vm₁ hW₁ => ⟨hf.1, hf.2, hPc (T.setVm vm₁) hT hW₁⟩) with ⟨v, vm₁, ⟨U', l2, c2, s2⟩, hW₁, X', ⟨g', mk, t, L, e1, e2, hq, h1, hL, h2, h3⟩, st⟩ | ⟨q, vm₁, ⟨U', l2, c2, s2⟩, hW₁, X', ⟨g', mk, t, L, E, ce, e1, e2, hq, hce, hcv, hcl, h1, hL, h2, h3⟩, st⟩
  · dsimp only [Pt.U, Pt.locs, Pt.cells, Pt.slots] at X' e1 e2 h1 h2 h3 st
    subst h1; subst h2; subst h3
    exact Or.inl ⟨v, (T.setVm vm₁).calling g' mk (Value.ref b :: As).toArray, t, U', L, hT, X', hL, e1, e2, hq, st⟩
  · dsimp only [Pt.U, Pt.locs, Pt.cells, Pt.slots] at X' e1 e2 h1 h2 h3 st hcl
    subst h1; subst h2; subst h3
    exact Or.inr ⟨q, (T.setVm vm₁).calling g' mk (Value.ref b :: As).toArray, t, U', L, E, ce, hT, X', hL, e1, e2, hq, hce, hcv, vx_cls hW₁ hcl, st⟩
theorem vx_runS (S : CallFix p m c cc nL s args Ts own) (hM : vx_Met l y ws rm Pc Qc XC mc ms free) (cw : CallB R s args own index y bytes maxL ret ws rm mc ms n ∧ (Cond.static y).before args s = true) (hp : PreS s H Pc As)
    (hg : g.method = m) (hn : As.length = n) (hsize : g.locals.size = nL) (hstack : g.stack = As.reverse ++ rest) (hW : 2 * g.monitorRoom + (rest.map fun v => v.category).sum ≤ 8) (hdg : decode cc g.pc = .ok (.invokestatic index, 3)) (hf : cells + mc ≤ R.cells ∧ slots + ms ≤ R.slots) :
    vx_Run p l e R s m args below meth c H locs cells slots mc ms g rest (Qc As.toArray) XC free := by
  have hK : vx_Back l R p e below s args y 3 8 (PreOf R mc ms Pc) (PostOf Qc mc ms free) (vx_Post XC mc ms free) := vx_callBack cw.1 hM hp.1
  obtain ⟨⟨-, -, -, -, -, -, hcode, hini, hy, hlen, hl⟩, hstt⟩ := cw
  obtain ⟨hx, hb, hml, ho, -⟩ := S
  intro T hT X
  rcases vx_callS X hx (bytes := bytes) (maxL := maxL) (ret := ret) ho hl hstt hini hcode hy hK hg (hsize.trans hml.symm) (argsL := As) (rest := rest) (fun sig h => hn.trans (hlen sig h)) hstack hW (by rw [hb]; exact hdg)
    (fun vm₁ hW₁ => ⟨hf.1, hf.2, hp.2 (T.setVm vm₁) hT hW₁⟩) with ⟨v, vm₁, ⟨U', l2, c2, s2⟩, hW₁, X', ⟨g', mk, t, L, e1, e2, hq, h1, hL, h2, h3⟩, st⟩ | ⟨q, vm₁, ⟨U', l2, c2, s2⟩, hW₁, X', ⟨g', mk, t, L, E, ce, e1, e2, hq, hce, hcv, hcl, h1, hL, h2, h3⟩, st⟩
  · dsimp only [Pt.U, Pt.locs, Pt.cells, Pt.slots] at X' e1 e2 h1 h2 h3 st
    subst h1; subst h2; subst h3
    exact Or.inl ⟨v, (T.setVm vm₁).calling g' mk As.toArray, t, U', L, hT, X', hL, e1, e2, hq, st⟩
  · dsimp only [Pt.U, Pt.locs, Pt.cells, Pt.slots] at X' e1 e2 h1 h2 h3 st hcl
    subst h1; subst h2; subst h3
    exact Or.inr ⟨q, (T.setVm vm₁).calling g' mk As.toArray, t, U', L, E, ce, hT, X', hL, e1, e2, hq, hce, hcv, vx_cls hW₁ hcl, st⟩
end Runs
section Rows
variable {p : Program} {l : Launch} {e : Env} {R : Room} {s : State} {m : MethodId} {args : Array Value} {below : List Frame} {meth : Method} {c : Code} {H : Heap} {locs : List Loc} {cells slots : Nat} {Q : State → Prop}
variable {mc ms : Nat} {free : Addr → Prop} {A0 A1 : Nat → Prop} {H0 : Heap} {a : Array Value} {pc : Nat} {ls : Array Slot} {st0 rest : List Value}
theorem vx_keep {st₀ t T' : State} {L : List Loc} (h0 : st₀.heap = H) (e1 : T'.heap = t.heap) (hS : va_S A0 H0 H locs) (hA : ∀ q, q < H.size → A1 q → A0 q) (hf : ∀ q, free q → A0 q) (hL : ∀ q ∈ L, free q.base) (hF : va_F A1 st₀ t) :
    H.size ≤ T'.heap.size ∧ (∀ q : Nat, q < H.size → ¬ A1 q → T'.heap[q]? = H[q]?) ∧ va_S A0 H0 T'.heap (locs ++ L) := by
  obtain ⟨hz, hk⟩ := hF
  rw [h0] at hz hk
  exact ⟨by rw [e1]; exact hz, fun q h1 h2 => by rw [e1]; exact hk q h1 h2,
    ⟨Nat.le_trans hS.1 (by rw [e1]; exact hz), fun q h1 h2 => by rw [e1, hk q (Nat.lt_of_lt_of_le h1 hS.1) (fun z => h2 (hA q (Nat.lt_of_lt_of_le h1 hS.1) z))]; exact hS.2.1 q h1 h2, fun q hq => by
      rcases List.mem_append.mp hq with h | h
      · exact hS.2.2 q h
      · exact hf _ (hL q h)⟩⟩
theorem vx_calli {S SX : Type} {post : Int32 → S → Prop} {px : SX → Prop} {B : S → State → Prop} {BX : String → SX → State → Prop} {AX : Nat → Prop} (hr : vx_Run p l e R s m args below meth c H locs cells slots mc ms (F0 m pc ls st0) rest (va_Qi post B A1 a) (vx_X px BX AX) free) (hS : va_S A0 H0 H locs) (hA : ∀ q, q < H.size → A1 q → A0 q) (hf : ∀ q, free q → A0 q) (hAX : ∀ q, q < H.size → AX q → A0 q)
    (kx : ∀ (E : String) (ce : Cell) (q9 : Addr) (u : SX) (t : State) (H1 : Heap) (locs1 : List Loc), t.heap = H1 → s.vm.Alike t.vm → px u → BX E u t → H.size ≤ H1.size → (∀ q : Nat, q < H.size → ¬ AX q → H1[q]? = H[q]?) → va_S A0 H0 H1 locs1 → H1[q9]? = some ce → ce.vm = .none → s.vm.findClass E = some ce.cls → vx_W p l e R s m args below meth c H1 locs1 (cells + mc) (slots + ms) Q (F0 m pc ls rest) q9)
    (kk : ∀ (r : Int32) (u : S) (t : State) (H1 : Heap) (locs1 : List Loc), t.heap = H1 → s.vm.Alike t.vm → post r u → B u t → H.size ≤ H1.size → (∀ q : Nat, q < H.size → ¬ A1 q → H1[q]? = H[q]?) → va_S A0 H0 H1 locs1 → W p l e R s m args below meth c H1 locs1 (cells + mc) (slots + ms) Q (F0 m (pc + 3) ls (.int r :: rest))) : W p l e R s m args below meth c H locs cells slots Q (F0 m pc ls st0) := by
  intro T hT X
  rcases hr T hT X with ⟨v, st₀, t, T', L, h0, X', hL, e1, e2, ⟨⟨r, u, hv, hp, hb⟩, hF⟩, st⟩ | ⟨q, st₀, t, T', L, E, ce, h0, X', hL, e1, e2, ⟨u, hp, hb, hF⟩, hce, hcv, hcl, st⟩
  · cases hv
    obtain ⟨k1, k2, k3⟩ := vx_keep h0 e1 hS hA hf hL hF
    obtain ⟨t2, a1, b1⟩ := kk r u t T'.heap (locs ++ L) e1.symm (by rw [← e2]; exact X'.warmed.alike) hp hb k1 k2 k3 T' rfl X'
    exact ⟨t2, st t2 a1, b1⟩
  · obtain ⟨k1, k2, k3⟩ := vx_keep h0 e1 hS hAX hf hL hF
    obtain ⟨t2, a1, b1⟩ := kx E ce q u t T'.heap (locs ++ L) e1.symm (by rw [← e2]; exact X'.warmed.alike) hp hb k1 k2 k3 (by rw [e1]; exact hce) hcv hcl T' rfl X'
    exact ⟨t2, st.trans a1, b1⟩
theorem vx_calll {S SX : Type} {post : Int64 → S → Prop} {px : SX → Prop} {B : S → State → Prop} {BX : String → SX → State → Prop} {AX : Nat → Prop} (hr : vx_Run p l e R s m args below meth c H locs cells slots mc ms (F0 m pc ls st0) rest (va_Ql post B A1 a) (vx_X px BX AX) free) (hS : va_S A0 H0 H locs) (hA : ∀ q, q < H.size → A1 q → A0 q) (hf : ∀ q, free q → A0 q) (hAX : ∀ q, q < H.size → AX q → A0 q)
    (kx : ∀ (E : String) (ce : Cell) (q9 : Addr) (u : SX) (t : State) (H1 : Heap) (locs1 : List Loc), t.heap = H1 → s.vm.Alike t.vm → px u → BX E u t → H.size ≤ H1.size → (∀ q : Nat, q < H.size → ¬ AX q → H1[q]? = H[q]?) → va_S A0 H0 H1 locs1 → H1[q9]? = some ce → ce.vm = .none → s.vm.findClass E = some ce.cls → vx_W p l e R s m args below meth c H1 locs1 (cells + mc) (slots + ms) Q (F0 m pc ls rest) q9)
    (kk : ∀ (r : Int64) (u : S) (t : State) (H1 : Heap) (locs1 : List Loc), t.heap = H1 → s.vm.Alike t.vm → post r u → B u t → H.size ≤ H1.size → (∀ q : Nat, q < H.size → ¬ A1 q → H1[q]? = H[q]?) → va_S A0 H0 H1 locs1 → W p l e R s m args below meth c H1 locs1 (cells + mc) (slots + ms) Q (F0 m (pc + 3) ls (.long r :: rest))) : W p l e R s m args below meth c H locs cells slots Q (F0 m pc ls st0) := by
  intro T hT X
  rcases hr T hT X with ⟨v, st₀, t, T', L, h0, X', hL, e1, e2, ⟨⟨r, u, hv, hp, hb⟩, hF⟩, st⟩ | ⟨q, st₀, t, T', L, E, ce, h0, X', hL, e1, e2, ⟨u, hp, hb, hF⟩, hce, hcv, hcl, st⟩
  · cases hv
    obtain ⟨k1, k2, k3⟩ := vx_keep h0 e1 hS hA hf hL hF
    obtain ⟨t2, a1, b1⟩ := kk r u t T'.heap (locs ++ L) e1.symm (by rw [← e2]; exact X'.warmed.alike) hp hb k1 k2 k3 T' rfl X'
    exact ⟨t2, st t2 a1, b1⟩
  · obtain ⟨k1, k2, k3⟩ := vx_keep h0 e1 hS hAX hf hL hF
    obtain ⟨t2, a1, b1⟩ := kx E ce q u t T'.heap (locs ++ L) e1.symm (by rw [← e2]; exact X'.warmed.alike) hp hb k1 k2 k3 (by rw [e1]; exact hce) hcv hcl T' rfl X'
    exact ⟨t2, st.trans a1, b1⟩
theorem vx_callf {S SX : Type} {post : UInt32 → S → Prop} {px : SX → Prop} {B : S → State → Prop} {BX : String → SX → State → Prop} {AX : Nat → Prop} (hr : vx_Run p l e R s m args below meth c H locs cells slots mc ms (F0 m pc ls st0) rest (va_Qf post B A1 a) (vx_X px BX AX) free) (hS : va_S A0 H0 H locs) (hA : ∀ q, q < H.size → A1 q → A0 q) (hf : ∀ q, free q → A0 q) (hAX : ∀ q, q < H.size → AX q → A0 q)
    (kx : ∀ (E : String) (ce : Cell) (q9 : Addr) (u : SX) (t : State) (H1 : Heap) (locs1 : List Loc), t.heap = H1 → s.vm.Alike t.vm → px u → BX E u t → H.size ≤ H1.size → (∀ q : Nat, q < H.size → ¬ AX q → H1[q]? = H[q]?) → va_S A0 H0 H1 locs1 → H1[q9]? = some ce → ce.vm = .none → s.vm.findClass E = some ce.cls → vx_W p l e R s m args below meth c H1 locs1 (cells + mc) (slots + ms) Q (F0 m pc ls rest) q9)
    (kk : ∀ (r : UInt32) (u : S) (t : State) (H1 : Heap) (locs1 : List Loc), t.heap = H1 → s.vm.Alike t.vm → post r u → B u t → H.size ≤ H1.size → (∀ q : Nat, q < H.size → ¬ A1 q → H1[q]? = H[q]?) → va_S A0 H0 H1 locs1 → W p l e R s m args below meth c H1 locs1 (cells + mc) (slots + ms) Q (F0 m (pc + 3) ls (.float r :: rest))) : W p l e R s m args below meth c H locs cells slots Q (F0 m pc ls st0) := by
  intro T hT X
  rcases hr T hT X with ⟨v, st₀, t, T', L, h0, X', hL, e1, e2, ⟨⟨r, u, hv, hp, hb⟩, hF⟩, st⟩ | ⟨q, st₀, t, T', L, E, ce, h0, X', hL, e1, e2, ⟨u, hp, hb, hF⟩, hce, hcv, hcl, st⟩
  · cases hv
    obtain ⟨k1, k2, k3⟩ := vx_keep h0 e1 hS hA hf hL hF
    obtain ⟨t2, a1, b1⟩ := kk r u t T'.heap (locs ++ L) e1.symm (by rw [← e2]; exact X'.warmed.alike) hp hb k1 k2 k3 T' rfl X'
    exact ⟨t2, st t2 a1, b1⟩
  · obtain ⟨k1, k2, k3⟩ := vx_keep h0 e1 hS hAX hf hL hF
    obtain ⟨t2, a1, b1⟩ := kx E ce q u t T'.heap (locs ++ L) e1.symm (by rw [← e2]; exact X'.warmed.alike) hp hb k1 k2 k3 (by rw [e1]; exact hce) hcv hcl T' rfl X'
    exact ⟨t2, st.trans a1, b1⟩
theorem vx_calld {S SX : Type} {post : UInt64 → S → Prop} {px : SX → Prop} {B : S → State → Prop} {BX : String → SX → State → Prop} {AX : Nat → Prop} (hr : vx_Run p l e R s m args below meth c H locs cells slots mc ms (F0 m pc ls st0) rest (va_Qd post B A1 a) (vx_X px BX AX) free) (hS : va_S A0 H0 H locs) (hA : ∀ q, q < H.size → A1 q → A0 q) (hf : ∀ q, free q → A0 q) (hAX : ∀ q, q < H.size → AX q → A0 q)
    (kx : ∀ (E : String) (ce : Cell) (q9 : Addr) (u : SX) (t : State) (H1 : Heap) (locs1 : List Loc), t.heap = H1 → s.vm.Alike t.vm → px u → BX E u t → H.size ≤ H1.size → (∀ q : Nat, q < H.size → ¬ AX q → H1[q]? = H[q]?) → va_S A0 H0 H1 locs1 → H1[q9]? = some ce → ce.vm = .none → s.vm.findClass E = some ce.cls → vx_W p l e R s m args below meth c H1 locs1 (cells + mc) (slots + ms) Q (F0 m pc ls rest) q9)
    (kk : ∀ (r : UInt64) (u : S) (t : State) (H1 : Heap) (locs1 : List Loc), t.heap = H1 → s.vm.Alike t.vm → post r u → B u t → H.size ≤ H1.size → (∀ q : Nat, q < H.size → ¬ A1 q → H1[q]? = H[q]?) → va_S A0 H0 H1 locs1 → W p l e R s m args below meth c H1 locs1 (cells + mc) (slots + ms) Q (F0 m (pc + 3) ls (.double r :: rest))) : W p l e R s m args below meth c H locs cells slots Q (F0 m pc ls st0) := by
  intro T hT X
  rcases hr T hT X with ⟨v, st₀, t, T', L, h0, X', hL, e1, e2, ⟨⟨r, u, hv, hp, hb⟩, hF⟩, st⟩ | ⟨q, st₀, t, T', L, E, ce, h0, X', hL, e1, e2, ⟨u, hp, hb, hF⟩, hce, hcv, hcl, st⟩
  · cases hv
    obtain ⟨k1, k2, k3⟩ := vx_keep h0 e1 hS hA hf hL hF
    obtain ⟨t2, a1, b1⟩ := kk r u t T'.heap (locs ++ L) e1.symm (by rw [← e2]; exact X'.warmed.alike) hp hb k1 k2 k3 T' rfl X'
    exact ⟨t2, st t2 a1, b1⟩
  · obtain ⟨k1, k2, k3⟩ := vx_keep h0 e1 hS hAX hf hL hF
    obtain ⟨t2, a1, b1⟩ := kx E ce q u t T'.heap (locs ++ L) e1.symm (by rw [← e2]; exact X'.warmed.alike) hp hb k1 k2 k3 (by rw [e1]; exact hce) hcv hcl T' rfl X'
    exact ⟨t2, st.trans a1, b1⟩
theorem vx_callv {S SX : Type} {post : S → Prop} {px : SX → Prop} {B : S → State → Prop} {BX : String → SX → State → Prop} {AX : Nat → Prop} (hr : vx_Run p l e R s m args below meth c H locs cells slots mc ms (F0 m pc ls st0) rest (va_Qv post B A1 a) (vx_X px BX AX) free) (hS : va_S A0 H0 H locs) (hA : ∀ q, q < H.size → A1 q → A0 q) (hf : ∀ q, free q → A0 q) (hAX : ∀ q, q < H.size → AX q → A0 q)
    (kx : ∀ (E : String) (ce : Cell) (q9 : Addr) (u : SX) (t : State) (H1 : Heap) (locs1 : List Loc), t.heap = H1 → s.vm.Alike t.vm → px u → BX E u t → H.size ≤ H1.size → (∀ q : Nat, q < H.size → ¬ AX q → H1[q]? = H[q]?) → va_S A0 H0 H1 locs1 → H1[q9]? = some ce → ce.vm = .none → s.vm.findClass E = some ce.cls → vx_W p l e R s m args below meth c H1 locs1 (cells + mc) (slots + ms) Q (F0 m pc ls rest) q9)
    (kk : ∀ (u : S) (t : State) (H1 : Heap) (locs1 : List Loc), t.heap = H1 → s.vm.Alike t.vm → post u → B u t → H.size ≤ H1.size → (∀ q : Nat, q < H.size → ¬ A1 q → H1[q]? = H[q]?) → va_S A0 H0 H1 locs1 → W p l e R s m args below meth c H1 locs1 (cells + mc) (slots + ms) Q (F0 m (pc + 3) ls (rest))) : W p l e R s m args below meth c H locs cells slots Q (F0 m pc ls st0) := by
  intro T hT X
  rcases hr T hT X with ⟨v, st₀, t, T', L, h0, X', hL, e1, e2, ⟨⟨u, hv, hp, hb⟩, hF⟩, st⟩ | ⟨q, st₀, t, T', L, E, ce, h0, X', hL, e1, e2, ⟨u, hp, hb, hF⟩, hce, hcv, hcl, st⟩
  · cases hv
    obtain ⟨k1, k2, k3⟩ := vx_keep h0 e1 hS hA hf hL hF
    obtain ⟨t2, a1, b1⟩ := kk u t T'.heap (locs ++ L) e1.symm (by rw [← e2]; exact X'.warmed.alike) hp hb k1 k2 k3 T' rfl X'
    exact ⟨t2, st t2 a1, b1⟩
  · obtain ⟨k1, k2, k3⟩ := vx_keep h0 e1 hS hAX hf hL hF
    obtain ⟨t2, a1, b1⟩ := kx E ce q u t T'.heap (locs ++ L) e1.symm (by rw [← e2]; exact X'.warmed.alike) hp hb k1 k2 k3 (by rw [e1]; exact hce) hcv hcl T' rfl X'
    exact ⟨t2, st.trans a1, b1⟩
/-- caught by the row x of this method's table; the rows ahead don't take it -/
theorem vx_catch {own name : String} {E : String} {ce : Cell} {q : Addr} (hown : s.vm.findClass own = some m.cls) (pre : List ExceptionTableEntry) (x : ExceptionTableEntry) (suf : List ExceptionTableEntry) (hsplit : c.exceptionTable.toList = pre ++ x :: suf)
    (hpass : ∀ z ∈ pre, covers z pc = false ∨ (z.catchType ≠ 0 ∧ ∃ nm : String, (Cond.classLink own z.catchType nm).before args s = true ∧ va_Nc E nm s)) (hx : covers x pc = true) (h0 : x.catchType ≠ 0)
    (hlink : (Cond.classLink own x.catchType name).before args s = true) (hcast : (Cond.castable E name).before args s = true) (hcell : H[q]? = some ce) (hv : ce.vm = .none) (hcl : s.vm.findClass E = some ce.cls)
    (kk : W p l e R s m args below meth c H locs cells slots Q (F0 m x.handlerPc ls [.ref q])) : vx_W p l e R s m args below meth c H locs cells slots Q (F0 m pc ls rest) q := by
  intro T hT X
  have hpl : e.platform.magicAccessors = ({} : Platform).magicAccessors := by rw [X.admits.platform]
  obtain ⟨c3, c4, hc3, hc4, hasg⟩ := Cond.castable_spec hcast
  cases Option.some.inj (hc3.symm.trans hcl)
  obtain ⟨c5, hc5, hcl5⟩ := Cond.classLink_spec hown hlink e.platform hpl
  cases Option.some.inj (hc4.symm.trans hc5)
  obtain ⟨vm', X', st⟩ := X.thenCaughtThrough q (g := F0 m pc ls rest) rfl (Steps.refl _) (by rw [hT]; exact hcell) (by rw [hv]; rfl) (by obtain ⟨k9, h9, -⟩ := Vm.findClass_spec hcl; exact ⟨k9, h9⟩) pre x suf hsplit
    (fun z hz => by
      rcases hpass z hz with h | ⟨hz0, nm, hl1, hn1⟩
      · exact Or.inl h
      · obtain ⟨c6, hc6, hcl6⟩ := Cond.classLink_spec hown hl1 e.platform hpl
        obtain ⟨a8, b8, h1, h2, h3⟩ := hn1
        cases Option.some.inj (h1.symm.trans hcl)
        cases Option.some.inj (h2.symm.trans hc6)
        exact Or.inr ⟨hz0, _, hcl6, h3⟩) hx (Or.inr ⟨h0, c4, hcl5, hasg⟩)
  obtain ⟨t, a1, b1⟩ := kk (T.setVm vm') hT X'
  exact ⟨t, st.trans a1, b1⟩
end Rows
section Ends
variable {p : Program} {l : Launch} {e : Env} {R : Room} {s : State} {m : MethodId} {args : Array Value} {below : List Frame} {meth : Method} {c : Code} {H : Heap} {locs : List Loc} {cells slots : Nat} {Q : State → Prop}
variable {mc ms : Nat} {free : Addr → Prop} {A0 A1 : Nat → Prop} {H0 : Heap} {a : Array Value} {ls : Array Slot} {st0 rest : List Value}
variable {Qc : Array Value → State → Outcome → State → Prop} {XC : String → State → State → Prop}
/-- what a body that may throw owes at its end -/
def vx_MQ (below : List Frame) (Qc : Array Value → State → Outcome → State → Prop) (XC : String → State → State → Prop) (a : Array Value) (s : State) (mc ms : Nat) (free : Addr → Prop) : State → Prop := fun t =>
  ∃ o, t.status = .running ∧ Ended t below o ∧ vx_Q Qc XC mc ms free a s o t
theorem vx_ret {g : JFrame} {mc ms : Nat} (k : W p l e R s m args below meth c H locs cells slots (MQ below Qc args s mc ms free) g) : W p l e R s m args below meth c H locs cells slots (vx_MQ below Qc XC args s mc ms free) g := by
  intro T hT X
  obtain ⟨t, a1, o, b1, b2, b3, b4⟩ := k T hT X
  exact ⟨t, a1, o, b1, b2, Or.inl ⟨b3, b4⟩⟩
/-- not caught here: it goes on to the caller -/
theorem vx_widen {g : JFrame} {q : Addr} {k n : Nat} (h1 : cells ≤ k) (h2 : slots ≤ n) (kk : vx_W p l e R s m args below meth c H locs k n Q g q) : vx_W p l e R s m args below meth c H locs cells slots Q g q := fun T hT X => kk T hT (stand_widen X h1 h2)
theorem vx_out {pc : Nat} {E : String} {ce : Cell} {q : Addr} {mc ms : Nat} (hout : ∀ x ∈ c.exceptionTable.toList, covers x pc = false) (hlocks : meth.locks = false) (hcell : H[q]? = some ce) (hv : ce.vm = .none) (hcl : s.vm.findClass E = some ce.cls)
    (hx : ∀ t : State, t.heap = H → s.vm.Alike t.vm → XC E s t) (hf : ∀ z ∈ locs, free z.base) (hc : cells ≤ mc) (hs : slots ≤ ms) :
    vx_W p l e R s m args below meth c H locs cells slots (vx_MQ below Qc XC args s mc ms free) (F0 m pc ls rest) q := by
  intro T hT X
  obtain ⟨st1, hrun, hend, hW, hsm⟩ := X.leaveThrown q (g := F0 m pc ls rest) rfl rfl rfl hout hlocks
  have hcell9 : (T.setFrames (.throwing q :: below)).heap[q]? = some ce := by
    show T.heap[q]? = some ce
    rw [hT]; exact hcell
  exact ⟨_, st1, .threw q, hrun, hend, Or.inr ⟨q, rfl, E, ce, locs, hx _ hT hW.alike, hcell9, hv, hcl, hW, hsm.mono hc hs, hf⟩⟩
theorem vx_frame {U : State} {k n : Nat} (h : s.sameButNew ({ U with vm := s.vm } : State) locs k n) : s.heap.size ≤ U.heap.size ∧ ∀ q : Nat, q < s.heap.size → (∀ z ∈ locs, z.base ≠ q) → U.heap[q]? = s.heap[q]? := by
  obtain ⟨-, h2, -, -, -, h6⟩ := h
  refine ⟨h2, fun q hq hz => ?_⟩
  obtain ⟨c9, e1, e2, e3, e4⟩ := h6 q _ (Array.getElem?_eq_getElem hq)
  have hs : c9.slots = (s.heap[q]).slots := Array.ext_getElem? fun i => e4 i fun hm => hz _ hm rfl
  have h9 : c9 = s.heap[q] := by
    rw [hs] at e2
    exact e2
  have e5 : U.heap[q]? = some c9 := e1
  rw [e5, h9, Array.getElem?_eq_getElem hq]
/-- the words of a throw but the four that speak of the heap -/
def vx_no (w : Cond) : Bool := decide (w ≠ .isRef (.static Bundle.tN "UNASSIGNED_STACK" Bundle.steD)) && decide (w ≠ .isRef (.static Bundle.tN "SUPPRESSED_SENTINEL" Bundle.listD)) && decide (w ≠ .laysStatic Bundle.tN "UNASSIGNED_STACK" Bundle.steD) && decide (w ≠ .laysStatic Bundle.tN "SUPPRESSED_SENTINEL" Bundle.listD)
def vx_at0 (own : String) (ic : Nat) (X : String) (names : List String) : List Cond := (Bundle.ownAtoms0 own ic X names).filter vx_no
def vx_atS (own : String) (ic : Nat) (X : String) (names : List String) : List Cond := (Bundle.ownAtoms own ic X names).filter vx_no
/-- a word that the tables alone decide, or a good one -/
def vx_ot (w : Cond) : Bool := w.onTables || goodWord w
theorem vx_ot_at {args a' : Array Value} {s U : State} {w : Cond} (hW : s.WarmedH U.vm) (hvm : s.vm = U.vm) (hg : vx_ot w = true) (h : w.before args s = true) : w.before a' U = true := by
  simp only [vx_ot, Bool.or_eq_true] at hg
  rcases hg with hg | hg
  · exact va_tabs hg hvm h
  · exact word_at hW (good_of_word hg) h
/-- a list's words: the good ones out of the method's own list, the others by premises of their own -/
theorem vx_hat {args : Array Value} {s : State} {L B : List Cond} (h1 : ∀ w ∈ L.filter goodWord, w.before args s = true) (h2 : ∀ w ∈ L.filter (fun w => !goodWord w), w ∈ B) (h3 : ∀ w ∈ B, w.before args s = true) : ∀ w ∈ L, w.before args s = true := by
  intro w hw
  by_cases g : goodWord w = true
  · exact h1 w (List.mem_filter.mpr ⟨hw, g⟩)
  · refine h3 w (h2 w (List.mem_filter.mpr ⟨hw, ?_⟩))
    show (!goodWord w) = true
    cases hgw : goodWord w
    · rfl
    · exact absurd hgw g
theorem vx_c {args : Array Value} {s : State} {w : Cond} {B : List Cond} (h : w.before args s = true) (t : ∀ w ∈ B, w.before args s = true) : ∀ w' ∈ w :: B, w'.before args s = true := fun w' h' => (List.mem_cons.mp h').elim (fun e => by rw [e]; exact h) (t w')
theorem vx_n {args : Array Value} {s : State} : ∀ w ∈ ([] : List Cond), w.before args s = true := fun _ h => nomatch h
theorem vx_own {args : Array Value} {s : State} {L : List Cond} (h1 : ∀ w ∈ L.filter vx_no, w.before args s = true)
    (hU : (Cond.isRef (.static Bundle.tN "UNASSIGNED_STACK" Bundle.steD)).before args s = true) (hN : (Cond.isRef (.static Bundle.tN "SUPPRESSED_SENTINEL" Bundle.listD)).before args s = true)
    (lU : (Cond.laysStatic Bundle.tN "UNASSIGNED_STACK" Bundle.steD).before args s = true) (lN : (Cond.laysStatic Bundle.tN "SUPPRESSED_SENTINEL" Bundle.listD).before args s = true) : ∀ w ∈ L, w.before args s = true := by
  intro w hw
  by_cases e1 : w = .isRef (.static Bundle.tN "UNASSIGNED_STACK" Bundle.steD)
  · rw [e1]; exact hU
  · by_cases e2 : w = .isRef (.static Bundle.tN "SUPPRESSED_SENTINEL" Bundle.listD)
    · rw [e2]; exact hN
    · by_cases e3 : w = .laysStatic Bundle.tN "UNASSIGNED_STACK" Bundle.steD
      · rw [e3]; exact lU
      · by_cases e4 : w = .laysStatic Bundle.tN "SUPPRESSED_SENTINEL" Bundle.listD
        · rw [e4]; exact lN
        · exact h1 w (List.mem_filter.mpr ⟨hw, by unfold vx_no; rw [decide_eq_true e1, decide_eq_true e2, decide_eq_true e3, decide_eq_true e4]; rfl⟩)
/-- where a static field lies, its class's statics cell in H -/
def vx_L (C n d : String) (A : Nat → Prop) (U : State) (H : Heap) : Prop := ∃ (c : ClassId) (k : Class) (i : Nat) (f : Field) (a : Nat) (cell : Cell), U.vm.findClass C = some c ∧ U.fieldFound? C n d = some (c, k, i, f) ∧ f.isStatic = true ∧ k.statics = some a ∧ H[a]? = some cell ∧ cell.vm.isStatics = true ∧ cell.cls = c ∧ f.slot < cell.slots.size ∧ k.staticTypes[f.slot]? = some f.type ∧ ¬ A a
theorem vx_L.moved {C n d : String} {A : Nat → Prop} {u U : State} {H : Heap} (hvm : u.vm.Alike U.vm) (h : vx_L C n d A u H) : vx_L C n d A U H := by
  obtain ⟨c, k, i, f, a, cell, h1, h2, h3, h4, h5, h6, h7, h8, h9, h10⟩ := h
  obtain ⟨k', hi', he⟩ := State.fieldFound?_setVm hvm h2
  exact ⟨c, k', i, f, a, cell, by rw [hvm.findClass]; exact h1, hi', h3, by rw [he]; exact h4, h5, h6, h7, h8, by rw [he]; exact h9, h10⟩
theorem vx_L.kept {C n d : String} {A : Nat → Prop} {U : State} {H H1 : Heap} (h : vx_L C n d A U H) (hq : ∀ a : Nat, a < H.size → ¬ A a → H1[a]? = H[a]?) : vx_L C n d A U H1 := by
  obtain ⟨c, k, i, f, a, cell, h1, h2, h3, h4, h5, h6, h7, h8, h9, h10⟩ := h
  exact ⟨c, k, i, f, a, cell, h1, h2, h3, h4, by rw [hq a (Array.getElem?_eq_some_iff.mp h5).1 h10]; exact h5, h6, h7, h8, h9, h10⟩
theorem vx_L.narrow {C n d : String} {A B : Nat → Prop} {U : State} {H : Heap} (h : vx_L C n d A U H) (hAB : ∀ q, B q → A q) : vx_L C n d B U H := by
  obtain ⟨c, k, i, f, a, cell, h1, h2, h3, h4, h5, h6, h7, h8, h9, h10⟩ := h
  exact ⟨c, k, i, f, a, cell, h1, h2, h3, h4, h5, h6, h7, h8, h9, fun z => h10 (hAB _ z)⟩
theorem vx_L.word {C n d : String} {A : Nat → Prop} {s : State} {args : Array Value} (h : vx_L C n d A s s.heap) : (Cond.laysStatic C n d).before args s = true := by
  obtain ⟨c, k, i, f, a, cell, h1, h2, h3, h4, h5, h6, h7, h8, h9, -⟩ := h
  show (Cond.laysStatic C n d).holds args s none s [] = true
  exact Cond.laysStatic_of h1 h2 h3 h4 h5 h6 h7 h8 h9
/-- .. and what it holds: null or some reference -/
def vx_Zq (C n d : String) (A : Nat → Prop) (U : State) (H : Heap) : Prop := va_Zq C n d A U H ∧ vx_L C n d A U H
theorem vx_Zq.moved {C n d : String} {A : Nat → Prop} {u U : State} {H : Heap} (hvm : u.vm.Alike U.vm) (h : vx_Zq C n d A u H) : vx_Zq C n d A U H := ⟨va_Zq.moved hvm h.1, vx_L.moved hvm h.2⟩
theorem vx_Zq.kept {C n d : String} {A : Nat → Prop} {U : State} {H H1 : Heap} (h : vx_Zq C n d A U H) (hq : ∀ a : Nat, a < H.size → ¬ A a → H1[a]? = H[a]?) : vx_Zq C n d A U H1 := ⟨va_Zq.kept h.1 hq, vx_L.kept h.2 hq⟩
theorem vx_Zq.narrow {C n d : String} {A B : Nat → Prop} {U : State} {H : Heap} (h : vx_Zq C n d A U H) (hAB : ∀ q, B q → A q) : vx_Zq C n d B U H := ⟨va_Zq.narrow h.1 hAB, vx_L.narrow h.2 hAB⟩
theorem vx_Zqof {args : Array Value} {s : State} {C n d : String} {A : Nat → Prop} (hl : (Cond.laysStatic C n d).before args s = true) (hini : (Cond.initialized C).before args s = true) (h : (Cond.isRef (.static C n d)).before args s = true) (hA : ∀ a : Nat, a < s.heap.size → ¬ A a) : vx_Zq C n d A s s.heap := by
  refine ⟨va_Zqof hl hini h hA, ?_⟩
  obtain ⟨c, k, i, f, a, cell, h1, h2, h3, h4, h5, h6, h7, h8, h9⟩ := Cond.laysStatic_spec hl
  exact ⟨c, k, i, f, a, cell, h1, h2, h3, h4, h5, h6, h7, h8, h9, hA a (Array.getElem?_eq_some_iff.mp h5).1⟩
theorem vx_isRef {C n d : String} {v : Value} {A : Nat → Prop} {s : State} {args : Array Value} (h : va_Z C n d v A s s.heap) (hv : v.isRef = true) : (Cond.isRef (.static C n d)).before args s = true := by
  obtain ⟨cf, kf, fi, f, a, cell, h1, h2, h3, h4, h5, h6, h7, -⟩ := h
  have he : (Term.static C n d).eval args s none [] s = some v := by
    simp [Term.eval, State.fieldNamed?, h1, h2, h4, h5, h6, h7]
  simp only [Cond.before, Cond.holds, Cond.value, he]
  cases v <;> simp_all [Value.isRef]
theorem vx_isRefq {C n d : String} {A : Nat → Prop} {s : State} {args : Array Value} (h : va_Zq C n d A s s.heap) : (Cond.isRef (.static C n d)).before args s = true := by
  rcases h with h | ⟨t, h⟩
  · exact vx_isRef h rfl
  · exact vx_isRef h rfl
/-- the same frame, seen from here: as if the method were called anew in this heap -/
theorem vx_rebase {T : State} (X : Stand p l e R s m args below meth c T locs cells slots) {R' : Room} (hf : R'.frames ≤ R.frames) (hl : R'.locals ≤ R.locals) (hc : cells + R'.cells ≤ R.cells) (hs : slots + R'.slots ≤ R.slots) :
    Stand p l e R' ((T.setVm s.vm).setFrames (.invoking m args :: below)) m args below meth c T [] 0 0 := by
  have htop : (T.setVm s.vm).topJava?.isSome := X.here.top
  have hF : ((T.setVm s.vm).setFrames (.invoking m args :: below)).frames = .invoking m args :: below := State.frames_setFrames _ (State.cur_lt_of_top htop)
  obtain ⟨g₀, hg0⟩ := Option.isSome_iff_exists.mp htop
  obtain ⟨r, hr⟩ := State.topJava?_eq_some.mp hg0
  have hl9 : e.platform.stackLimits (T.setVm s.vm).me = e.platform.stackLimits s.me := X.limits
  have hb9 : (T.setVm s.vm).me.stackBytes = s.me.stackBytes := X.bytes
  refine ⟨X.admits, X.cas, X.clock, hF, ?_, X.hears, X.method, X.code, X.here, X.tail, X.warmed, ?_, ?_, ?_⟩
  · have h := X.room
    have hU : ((T.setVm s.vm).setFrames (.invoking m args :: below)).localsInUse = s.localsInUse := by
      rw [State.localsInUse_invoking hF (meth := meth) (c := c) X.method X.code, State.localsInUse_invoking X.frames X.method X.code]
    simp only [State.hasRoom, Bool.and_eq_true, decide_eq_true_eq] at h ⊢
    obtain ⟨⟨⟨⟨h1, h2, h3, h4, h5, h6⟩, h7⟩, h8⟩, h9⟩ := h
    rw [X.frames, List.length_cons] at h2 h3
    have q1 := X.heapSize
    have q2 := X.used
    simp only [hF, hU, List.length_cons, State.stackLimits_setFrames, State.stackBytes_setFrames, hl9, hb9]
    refine ⟨⟨⟨⟨by omega, by omega, by omega, by omega, by omega, h6⟩, ?_⟩, ?_⟩, X.book⟩
    · show T.heap.size + R'.cells ≤ e.platform.maxCells
      omega
    · show T.slotsUsed + R'.slots ≤ e.platform.maxSlots
      omega
  · rw [State.stackLimits_setFrames]; rfl
  · rw [State.stackBytes_setFrames]; rfl
  · refine ⟨?_, Nat.le_refl _, Nat.le_refl _, ?_, ?_, fun a c9 h9 => ⟨c9, h9, rfl, rfl, fun _ _ => rfl⟩⟩
    · obtain ⟨t, ht, -⟩ := State.frames_cons hr
      show T.setVm s.vm = { ((T.setVm s.vm).setFrames (.invoking m args :: below)).setFrames (T.setVm s.vm).frames with heap := T.heap, slotsUsed := T.slotsUsed }
      rw [State.setFrames_setFrames, State.setFrames_self ht]
      rfl
    · show T.slotsUsed = T.slotsUsed + ((T.heap.toList.drop T.heap.size).map (·.slots.size)).sum
      rw [List.drop_eq_nil_of_le (Nat.le_of_eq Array.length_toList)]
      rfl
    · show ((T.heap.toList.drop T.heap.size).map (·.slots.size)).sum ≤ 0
      rw [List.drop_eq_nil_of_le (Nat.le_of_eq Array.length_toList)]
      exact Nat.le_refl _
/-- 'throw new E()': new; dup; invokespecial; athrow -/
theorem vx_throw0 {cc : ByteArray} {pc : Nat} (hexec : p.tables.exec = Jvm.exec) (hb : c.code = cc) (hl : l.stackTraces = false) {own cls : String} {names : List String} {ik ic mc ms : Nat} {A : Nat → Prop}
    (hown : s.vm.findClass own = some m.cls) (hcls : Bundle.fit cls = true) (hnames : ∀ n ∈ names, Bundle.fit n = true)
    (hk : (Cond.classLink own ik cls).before args s = true) (hini : (Cond.initialized cls).before args s = true) (hat : ∀ w ∈ vx_at0 own ic cls names, w.before args s = true)
    (hgood : ∀ w ∈ Cond.classLink own ik cls :: Cond.initialized cls :: vx_at0 own ic cls names, vx_ot w = true)
    (hU : vx_Zq Bundle.tN "UNASSIGNED_STACK" Bundle.steD A s s.heap) (hN : vx_Zq Bundle.tN "SUPPRESSED_SENTINEL" Bundle.listD A s s.heap) (hS : va_S A s.heap H locs) (hsize : ls.size = c.maxLocals)
    (d0 : decode cc pc = .ok (.new ik, 3)) (d3 : decode cc (pc + 3) = .ok (.dup, 1)) (d4 : decode cc (pc + 4) = .ok (.invokespecial ic, 3)) (d7 : decode cc (pc + 7) = .ok (.athrow, 1))
    (hout : ∀ x ∈ c.exceptionTable.toList, covers x (pc + 7) = false)
    (hRframes : names.length + 3 < R.frames) (hRlocals : (rest.map fun v => v.category).sum + (13 * (names.length + 1) + 42) ≤ R.locals) (hRcells : cells + 1 ≤ R.cells) (hRslots : slots + 6 ≤ R.slots) (hlocks : meth.locks = false)
    (hx : ∀ t : State, s.vm.Alike t.vm → H.size ≤ t.heap.size → (∀ q : Nat, q < H.size → t.heap[q]? = H[q]?) → XC cls s t)
    (hf : ∀ z ∈ locs, free z.base) (hc : cells + 1 ≤ mc) (hs : slots + 6 ≤ ms) :
    W p l e R s m args below meth c H locs cells slots (vx_MQ below Qc XC args s mc ms free) (F0 m pc ls rest) := by
  intro T hT X
  have htr : e.platform.stackTraces = false := (show e.platform.stackTraces = l.stackTraces by rw [X.admits.platform]).trans hl
  have Y := vx_rebase X (R' := { frames := R.frames, locals := R.locals, cells := 1, slots := 6 }) (Nat.le_refl _) (Nat.le_refl _) hRcells hRslots
  obtain ⟨s', hA⟩ : ∃ z, z = (T.setVm s.vm).setFrames (.invoking m args :: below) := ⟨_, rfl⟩
  rw [← hA] at Y
  have hvm : s'.vm = s.vm := by rw [hA]; rfl
  have hhp : s'.heap = H := by rw [hA]; exact hT
  have hW0 : s.WarmedH s'.vm := by rw [hvm]; exact State.WarmedH.refl s
  have hat' : ∀ w ∈ vx_at0 own ic cls names, w.before args s' = true := fun w hw => vx_ot_at hW0 hvm.symm (hgood w (List.mem_cons_of_mem _ (List.mem_cons_of_mem _ hw))) (hat w hw)
  have hk' : (Cond.classLink own ik cls).before args s' = true := vx_ot_at hW0 hvm.symm (hgood _ List.mem_cons_self) hk
  have hini' : (Cond.initialized cls).before args s' = true := vx_ot_at hW0 hvm.symm (hgood _ (List.mem_cons_of_mem _ List.mem_cons_self)) hini
  have hU' : vx_Zq Bundle.tN "UNASSIGNED_STACK" Bundle.steD A s' s'.heap := by rw [hhp]; exact vx_Zq.moved hW0.alike (hU.kept hS.2.1)
  have hN' : vx_Zq Bundle.tN "SUPPRESSED_SENTINEL" Bundle.listD A s' s'.heap := by rw [hhp]; exact vx_Zq.moved hW0.alike (hN.kept hS.2.1)
  have h : ∀ w ∈ Bundle.ownAtoms0 own ic cls names, w.before args s' = true := vx_own hat' (vx_isRefq hU'.1) (vx_isRefq hN'.1) hU'.2.word hN'.2.word
  have hown' : s'.vm.findClass own = some m.cls := by rw [hvm]; exact hown
  have hins : (Cond.instantiable cls 6).before args s' = true := h _ (by simp [Bundle.ownAtoms0])
  obtain ⟨vm₁, cX, kX, hfX, hkX, -, -, X₁, st1⟩ := Y.newCold hexec (own := own) (C := cls) (index := ik) (n := 6) hown' hk' hins hini'
    (g := F0 m pc ls rest) rfl (by rw [hb]; exact d0) (Nat.le_refl _) (Nat.le_refl _)
  generalize hT1 : (T.setVm vm₁).pushCell { cls := cX, slots := kX.instanceTypes.map defaultValue, vm := .none } = T1 at X₁ st1
  have hcat : (Value.ref T.heap.size).category = 1 := rfl
  have hcellA : T1.heap[T.heap.size]? = some (freshCell cX kX) := by rw [← hT1]; exact State.heap_pushCell_size _ _
  have d3' : decode c.code (pc + 3) = .ok (.dup, 1) := by rw [hb]; exact d3
  obtain ⟨U, hsteps, hrun, hend, hW, hsame, ce, hce, hO⟩ := X₁.ctorThrow0 hexec htr (own := own) (cls := cls) (names := names) (ic := ic) hown' hcls hnames h (fun x hx => nomatch hx) hfX hkX hcellA (by rw [hhp, hT]; exact Nat.le_refl _)
    (g := { method := m, pc := pc + 4, locals := ls, stack := .ref T.heap.size :: .ref T.heap.size :: rest, locked := none }) rfl hsize rfl rfl (rest := rest) rfl
    (by rw [hb]; exact d4) (by rw [hb]; exact d7) hout hRframes (by simp only [List.map_cons, List.sum_cons, hcat]; omega) hlocks
  obtain ⟨f1, f2⟩ := vx_frame hsame
  rw [hhp] at f1 f2
  have hWs : s.WarmedH U.vm := State.WarmedH.trans hW0 hW
  have hcl : s.vm.findClass cls = some ce.cls := by
    have h9 := hO.cls
    rw [hvm] at h9
    exact h9
  have hall : s.sameButNew ({ U with vm := s.vm } : State) locs mc ms := by
    subst hA
    obtain ⟨e1, e2⟩ := hsame
    rw [State.setFrames_setFrames] at e1
    have h2 : (T.setVm s.vm).sameButNew ({ U with vm := s.vm } : State) [] (0 + 1) (0 + 6) := ⟨e1, e2⟩
    have h3 := X.same.trans h2
    rw [List.append_nil] at h3
    exact h3.mono hc hs
  refine ⟨U, ?_, .threw T.heap.size, hrun, hend, Or.inr ⟨T.heap.size, rfl, cls, ce, locs, hx U hWs.alike f1 (fun q hq => f2 q hq (fun z hz => nomatch hz)), hce, hO.vm, hcl, hWs, hall, hf⟩⟩
  refine st1 _ ?_
  show Steps p.tables e below (T1.setTop { method := m, pc := pc + 3, locals := ls, stack := .ref T.heap.size :: rest, locked := none }) _
  jvm_step X₁.here [X₁.here.top, hexec, d3', Value.category]
  exact hsteps
/-- 'throw new E("text")': new; dup; ldc; invokespecial; athrow -/
theorem vx_throwS {cc : ByteArray} {pc : Nat} (hexec : p.tables.exec = Jvm.exec) (hb : c.code = cc) (hl : l.stackTraces = false) {own cls text : String} {names : List String} {ik is ic mc ms sa : Nat} {A : Nat → Prop}
    (hown : s.vm.findClass own = some m.cls) (hcls : Bundle.fit cls = true) (hnames : ∀ n ∈ names, Bundle.fit n = true)
    (hk : (Cond.classLink own ik cls).before args s = true) (hini : (Cond.initialized cls).before args s = true) (hstr : vk_R own is text sa s) (hat : ∀ w ∈ vx_atS own ic cls names, w.before args s = true)
    (hgood : ∀ w ∈ Cond.classLink own ik cls :: Cond.initialized cls :: vx_atS own ic cls names, vx_ot w = true)
    (hU : vx_Zq Bundle.tN "UNASSIGNED_STACK" Bundle.steD A s s.heap) (hN : vx_Zq Bundle.tN "SUPPRESSED_SENTINEL" Bundle.listD A s s.heap) (hS : va_S A s.heap H locs) (hsize : ls.size = c.maxLocals)
    (d0 : decode cc pc = .ok (.new ik, 3)) (d3 : decode cc (pc + 3) = .ok (.dup, 1)) (d4 : decode cc (pc + 4) = .ok (.ldc is, 2)) (d6 : decode cc (pc + 6) = .ok (.invokespecial ic, 3)) (d9 : decode cc (pc + 9) = .ok (.athrow, 1))
    (hout : ∀ x ∈ c.exceptionTable.toList, covers x (pc + 9) = false)
    (hRframes : names.length + 3 < R.frames) (hRlocals : (rest.map fun v => v.category).sum + (13 * (names.length + 1) + 43) ≤ R.locals) (hRcells : cells + 1 ≤ R.cells) (hRslots : slots + 6 ≤ R.slots) (hlocks : meth.locks = false)
    (hx : ∀ t : State, s.vm.Alike t.vm → H.size ≤ t.heap.size → (∀ q : Nat, q < H.size → t.heap[q]? = H[q]?) → XC cls s t)
    (hf : ∀ z ∈ locs, free z.base) (hc : cells + 1 ≤ mc) (hs : slots + 6 ≤ ms) :
    W p l e R s m args below meth c H locs cells slots (vx_MQ below Qc XC args s mc ms free) (F0 m pc ls rest) := by
  intro T hT X
  have htr : e.platform.stackTraces = false := (show e.platform.stackTraces = l.stackTraces by rw [X.admits.platform]).trans hl
  have Y := vx_rebase X (R' := { frames := R.frames, locals := R.locals, cells := 1, slots := 6 }) (Nat.le_refl _) (Nat.le_refl _) hRcells hRslots
  obtain ⟨s', hA⟩ : ∃ z, z = (T.setVm s.vm).setFrames (.invoking m args :: below) := ⟨_, rfl⟩
  rw [← hA] at Y
  have hvm : s'.vm = s.vm := by rw [hA]; rfl
  have hhp : s'.heap = H := by rw [hA]; exact hT
  have hW0 : s.WarmedH s'.vm := by rw [hvm]; exact State.WarmedH.refl s
  have hat' : ∀ w ∈ vx_atS own ic cls names, w.before args s' = true := fun w hw => vx_ot_at hW0 hvm.symm (hgood w (List.mem_cons_of_mem _ (List.mem_cons_of_mem _ hw))) (hat w hw)
  have hk' : (Cond.classLink own ik cls).before args s' = true := vx_ot_at hW0 hvm.symm (hgood _ List.mem_cons_self) hk
  have hini' : (Cond.initialized cls).before args s' = true := vx_ot_at hW0 hvm.symm (hgood _ (List.mem_cons_of_mem _ List.mem_cons_self)) hini
  have hU' : vx_Zq Bundle.tN "UNASSIGNED_STACK" Bundle.steD A s' s'.heap := by rw [hhp]; exact vx_Zq.moved hW0.alike (hU.kept hS.2.1)
  have hN' : vx_Zq Bundle.tN "SUPPRESSED_SENTINEL" Bundle.listD A s' s'.heap := by rw [hhp]; exact vx_Zq.moved hW0.alike (hN.kept hS.2.1)
  have h : ∀ w ∈ Bundle.ownAtoms own ic cls names, w.before args s' = true := vx_own hat' (vx_isRefq hU'.1) (vx_isRefq hN'.1) hU'.2.word hN'.2.word
  have hown' : s'.vm.findClass own = some m.cls := by rw [hvm]; exact hown
  have hins : (Cond.instantiable cls 6).before args s' = true := h _ (by simp [Bundle.ownAtoms])
  obtain ⟨vm₁, cX, kX, hfX, hkX, -, -, X₁, st1⟩ := Y.newCold hexec (own := own) (C := cls) (index := ik) (n := 6) hown' hk' hins hini'
    (g := F0 m pc ls rest) rfl (by rw [hb]; exact d0) (Nat.le_refl _) (Nat.le_refl _)
  generalize hT1 : (T.setVm vm₁).pushCell { cls := cX, slots := kX.instanceTypes.map defaultValue, vm := .none } = T1 at X₁ st1
  have hcat : (Value.ref T.heap.size).category = 1 := rfl
  have hcellA : T1.heap[T.heap.size]? = some (freshCell cX kX) := by rw [← hT1]; exact State.heap_pushCell_size _ _
  have d3' : decode c.code (pc + 3) = .ok (.dup, 1) := by rw [hb]; exact d3
  have d4' : decode c.code (pc + 4) = .ok (.ldc is, 2) := by rw [hb]; exact d4
  have hstr' : vk_R own is text sa s' := vk_R.warm hW0 hstr
  obtain ⟨U, hsteps, hrun, hend, hW, hsame, ce, hce, hO⟩ := X₁.ctorThrowS hexec htr (own := own) (cls := cls) (names := names) (ic := ic) hown' hcls hnames h (fun x hx => nomatch hx) hfX hkX hcellA (by rw [hhp, hT]; exact Nat.le_refl _) (msg := .ref sa) rfl
    (g := { method := m, pc := pc + 6, locals := ls, stack := .ref sa :: .ref T.heap.size :: .ref T.heap.size :: rest, locked := none }) rfl hsize rfl rfl (rest := rest) rfl
    (by rw [hb]; exact d6) (by rw [hb]; exact d9) hout hRframes (by simp only [List.map_cons, List.sum_cons, hcat]; omega) hlocks
  obtain ⟨f1, f2⟩ := vx_frame hsame
  rw [hhp] at f1 f2
  have hWs : s.WarmedH U.vm := State.WarmedH.trans hW0 hW
  have hcl : s.vm.findClass cls = some ce.cls := by
    have h9 := hO.cls
    rw [hvm] at h9
    exact h9
  have hall : s.sameButNew ({ U with vm := s.vm } : State) locs mc ms := by
    subst hA
    obtain ⟨e1, e2⟩ := hsame
    rw [State.setFrames_setFrames] at e1
    have h2 : (T.setVm s.vm).sameButNew ({ U with vm := s.vm } : State) [] (0 + 1) (0 + 6) := ⟨e1, e2⟩
    have h3 := X.same.trans h2
    rw [List.append_nil] at h3
    exact h3.mono hc hs
  refine ⟨U, ?_, .threw T.heap.size, hrun, hend, Or.inr ⟨T.heap.size, rfl, cls, ce, locs, hx U hWs.alike f1 (fun q hq => f2 q hq (fun z hz => nomatch hz)), hce, hO.vm, hcl, hWs, hall, hf⟩⟩
  refine st1 _ ?_
  show Steps p.tables e below (T1.setTop { method := m, pc := pc + 3, locals := ls, stack := .ref T.heap.size :: rest, locked := none }) _
  jvm_step X₁.here [X₁.here.top, hexec, d3', Value.category]
  exact X₁.ldcString hexec (own := own) (text := text) (index := is) (a := sa) hown' hstr'.1 hstr'.2
    (g := { method := m, pc := pc + 4, locals := ls, stack := .ref T.heap.size :: .ref T.heap.size :: rest, locked := none }) rfl d4' _ hsteps
/-- 'throw new E("text")', the text by a wide index -/
theorem vx_throwSW {cc : ByteArray} {pc : Nat} (hexec : p.tables.exec = Jvm.exec) (hb : c.code = cc) (hl : l.stackTraces = false) {own cls text : String} {names : List String} {ik is ic mc ms sa : Nat} {A : Nat → Prop}
    (hown : s.vm.findClass own = some m.cls) (hcls : Bundle.fit cls = true) (hnames : ∀ n ∈ names, Bundle.fit n = true)
    (hk : (Cond.classLink own ik cls).before args s = true) (hini : (Cond.initialized cls).before args s = true) (hstr : vk_R own is text sa s) (hat : ∀ w ∈ vx_atS own ic cls names, w.before args s = true)
    (hgood : ∀ w ∈ Cond.classLink own ik cls :: Cond.initialized cls :: vx_atS own ic cls names, vx_ot w = true)
    (hU : vx_Zq Bundle.tN "UNASSIGNED_STACK" Bundle.steD A s s.heap) (hN : vx_Zq Bundle.tN "SUPPRESSED_SENTINEL" Bundle.listD A s s.heap) (hS : va_S A s.heap H locs) (hsize : ls.size = c.maxLocals)
    (d0 : decode cc pc = .ok (.new ik, 3)) (d3 : decode cc (pc + 3) = .ok (.dup, 1)) (d4 : decode cc (pc + 4) = .ok (.ldc_w is, 3)) (d7 : decode cc (pc + 7) = .ok (.invokespecial ic, 3)) (d10 : decode cc (pc + 10) = .ok (.athrow, 1))
    (hout : ∀ x ∈ c.exceptionTable.toList, covers x (pc + 10) = false)
    (hRframes : names.length + 3 < R.frames) (hRlocals : (rest.map fun v => v.category).sum + (13 * (names.length + 1) + 43) ≤ R.locals) (hRcells : cells + 1 ≤ R.cells) (hRslots : slots + 6 ≤ R.slots) (hlocks : meth.locks = false)
    (hx : ∀ t : State, s.vm.Alike t.vm → H.size ≤ t.heap.size → (∀ q : Nat, q < H.size → t.heap[q]? = H[q]?) → XC cls s t)
    (hf : ∀ z ∈ locs, free z.base) (hc : cells + 1 ≤ mc) (hs : slots + 6 ≤ ms) :
    W p l e R s m args below meth c H locs cells slots (vx_MQ below Qc XC args s mc ms free) (F0 m pc ls rest) := by
  intro T hT X
  have htr : e.platform.stackTraces = false := (show e.platform.stackTraces = l.stackTraces by rw [X.admits.platform]).trans hl
  have Y := vx_rebase X (R' := { frames := R.frames, locals := R.locals, cells := 1, slots := 6 }) (Nat.le_refl _) (Nat.le_refl _) hRcells hRslots
  obtain ⟨s', hA⟩ : ∃ z, z = (T.setVm s.vm).setFrames (.invoking m args :: below) := ⟨_, rfl⟩
  rw [← hA] at Y
  have hvm : s'.vm = s.vm := by rw [hA]; rfl
  have hhp : s'.heap = H := by rw [hA]; exact hT
  have hW0 : s.WarmedH s'.vm := by rw [hvm]; exact State.WarmedH.refl s
  have hat' : ∀ w ∈ vx_atS own ic cls names, w.before args s' = true := fun w hw => vx_ot_at hW0 hvm.symm (hgood w (List.mem_cons_of_mem _ (List.mem_cons_of_mem _ hw))) (hat w hw)
  have hk' : (Cond.classLink own ik cls).before args s' = true := vx_ot_at hW0 hvm.symm (hgood _ List.mem_cons_self) hk
  have hini' : (Cond.initialized cls).before args s' = true := vx_ot_at hW0 hvm.symm (hgood _ (List.mem_cons_of_mem _ List.mem_cons_self)) hini
  have hU' : vx_Zq Bundle.tN "UNASSIGNED_STACK" Bundle.steD A s' s'.heap := by rw [hhp]; exact vx_Zq.moved hW0.alike (hU.kept hS.2.1)
  have hN' : vx_Zq Bundle.tN "SUPPRESSED_SENTINEL" Bundle.listD A s' s'.heap := by rw [hhp]; exact vx_Zq.moved hW0.alike (hN.kept hS.2.1)
  have h : ∀ w ∈ Bundle.ownAtoms own ic cls names, w.before args s' = true := vx_own hat' (vx_isRefq hU'.1) (vx_isRefq hN'.1) hU'.2.word hN'.2.word
  have hown' : s'.vm.findClass own = some m.cls := by rw [hvm]; exact hown
  have hins : (Cond.instantiable cls 6).before args s' = true := h _ (by simp [Bundle.ownAtoms])
  obtain ⟨vm₁, cX, kX, hfX, hkX, -, -, X₁, st1⟩ := Y.newCold hexec (own := own) (C := cls) (index := ik) (n := 6) hown' hk' hins hini'
    (g := F0 m pc ls rest) rfl (by rw [hb]; exact d0) (Nat.le_refl _) (Nat.le_refl _)
  generalize hT1 : (T.setVm vm₁).pushCell { cls := cX, slots := kX.instanceTypes.map defaultValue, vm := .none } = T1 at X₁ st1
  have hcat : (Value.ref T.heap.size).category = 1 := rfl
  have hcellA : T1.heap[T.heap.size]? = some (freshCell cX kX) := by rw [← hT1]; exact State.heap_pushCell_size _ _
  have d3' : decode c.code (pc + 3) = .ok (.dup, 1) := by rw [hb]; exact d3
  have d4' : decode c.code (pc + 4) = .ok (.ldc_w is, 3) := by rw [hb]; exact d4
  have hstr' : vk_R own is text sa s' := vk_R.warm hW0 hstr
  obtain ⟨U, hsteps, hrun, hend, hW, hsame, ce, hce, hO⟩ := X₁.ctorThrowS hexec htr (own := own) (cls := cls) (names := names) (ic := ic) hown' hcls hnames h (fun x hx => nomatch hx) hfX hkX hcellA (by rw [hhp, hT]; exact Nat.le_refl _) (msg := .ref sa) rfl
    (g := { method := m, pc := pc + 7, locals := ls, stack := .ref sa :: .ref T.heap.size :: .ref T.heap.size :: rest, locked := none }) rfl hsize rfl rfl (rest := rest) rfl
    (by rw [hb]; exact d7) (by rw [hb]; exact d10) hout hRframes (by simp only [List.map_cons, List.sum_cons, hcat]; omega) hlocks
  obtain ⟨f1, f2⟩ := vx_frame hsame
  rw [hhp] at f1 f2
  have hWs : s.WarmedH U.vm := State.WarmedH.trans hW0 hW
  have hcl : s.vm.findClass cls = some ce.cls := by
    have h9 := hO.cls
    rw [hvm] at h9
    exact h9
  have hall : s.sameButNew ({ U with vm := s.vm } : State) locs mc ms := by
    subst hA
    obtain ⟨e1, e2⟩ := hsame
    rw [State.setFrames_setFrames] at e1
    have h2 : (T.setVm s.vm).sameButNew ({ U with vm := s.vm } : State) [] (0 + 1) (0 + 6) := ⟨e1, e2⟩
    have h3 := X.same.trans h2
    rw [List.append_nil] at h3
    exact h3.mono hc hs
  refine ⟨U, ?_, .threw T.heap.size, hrun, hend, Or.inr ⟨T.heap.size, rfl, cls, ce, locs, hx U hWs.alike f1 (fun q hq => f2 q hq (fun z hz => nomatch hz)), hce, hO.vm, hcl, hWs, hall, hf⟩⟩
  refine st1 _ ?_
  show Steps p.tables e below (T1.setTop { method := m, pc := pc + 3, locals := ls, stack := .ref T.heap.size :: rest, locked := none }) _
  jvm_step X₁.here [X₁.here.top, hexec, d3', Value.category]
  exact X₁.ldcStringW hexec (own := own) (text := text) (index := is) (a := sa) hown' hstr'.1 hstr'.2
    (g := { method := m, pc := pc + 4, locals := ls, stack := .ref T.heap.size :: .ref T.heap.size :: rest, locked := none }) rfl d4' _ hsteps
end Ends
section Bodies
variable {l : Launch}
theorem vx_ofW {y : MethodName} {ws ws' : List Cond} {rm : Room} {Pc : Array Value → State → Prop} {Qc : Array Value → State → Outcome → State → Prop} {XC : String → State → State → Prop} {mc ms : Nat} {free : Addr → Prop} {cc : ByteArray} {maxL : Nat} {ret : Option FieldType}
    (hy : plainName y.cls = true) (hw : ws = Cond.code y cc maxL ret :: ws')
    (body : ∀ p e s m args below meth c s₁, BodyLoose p l y (headSpec ws rm) cc maxL ret e s m args below meth c s₁ → c.maxLocals = maxL → (∀ x ∈ c.exceptionTable.toList, False) → Pc args s →
      W p l e (headSpec ws rm).room s m args below meth c s.heap [] 0 0 (vx_MQ below Qc XC args s mc ms free) (entryFrame m args maxL)) : vx_Met l y ws rm Pc Qc XC mc ms free := by
  refine MetFree.of_bodyS (code := cc) (maxLocals := maxL) (ret := ret) hy ?_ ?_
  · intro args s m h hn
    obtain ⟨meth, c, h1, h2, h3, h4, h5, h6, -, -⟩ := Cond.code_spec hn (atoms_spec (ws := ws) h _ (by rw [hw]; exact List.mem_cons_self))
    exact ⟨meth, c, h1, h2, h3, h4, h5, h6⟩
  · intro p e s m args below meth c s₁ B hml hP _
    have hh0 : s₁.heap = s.heap := by rw [B.state]; rfl
    have ht : ∀ x ∈ c.exceptionTable.toList, False := by
      obtain ⟨meth9, c9, h1, h2, -, -, -, -, h7, -⟩ := Cond.code_spec B.named (atoms_spec (ws := ws) B.pre _ (by rw [hw]; exact List.mem_cons_self))
      cases Option.some.inj (h1.symm.trans B.method)
      cases Option.some.inj (h2.symm.trans (Stand.of_body B).code)
      intro x hx
      rw [Array.isEmpty_iff.mp h7] at hx
      cases hx
    obtain ⟨t, a1, o, b1, b2, b3⟩ := body p e s m args below meth c s₁ B hml ht hP s₁ hh0 (Stand.of_body B)
    exact ⟨t, o, a1, b1, b2, b3⟩
/-- the table of a body with handlers -/
theorem vx_table {p : Program} {x y : MethodName} {S : Spec} {cc bytes : ByteArray} {maxL maxL' : Nat} {ret ret' : Option FieldType} {e : Env} {s s₁ : State} {m : MethodId} {args : Array Value} {below : List Frame} {meth : Method} {c : Code} {hh : List (Nat × Nat × Nat × Nat)}
    (B : BodyLoose p l y S cc maxL ret e s m args below meth c s₁) (h : (Cond.codeWith y bytes maxL' ret' hh).before args s = true) : c.exceptionTable.toList = tableOf hh := by
  obtain ⟨m9, meth9, c9, hn9, h1, h2, -, -, h6, -⟩ := Cond.codeWith_spec h
  cases Option.some.inj (hn9.symm.trans B.named)
  cases Option.some.inj (h1.symm.trans B.method)
  cases Option.some.inj (h2.symm.trans (Stand.of_body B).code)
  rw [← h6, table_eq]
end Bodies
end VXA
/-! ===== END ===== -/
/-! ===== BEGIN a static call of a method with an exception table ===== -/
section VXS
variable {p : Program} {l : Launch} {e : Env} {R : Room} {s : State} {m : MethodId} {args : Array Value} {below : List Frame} {meth : Method} {c : Code} {T : State} {H : Heap} {locs : List Loc} {cells slots : Nat}
abbrev vx_CSW (R : Room) (s : State) (args : Array Value) (own : String) (index : Nat) (y : MethodName) (bytes : ByteArray) (maxL : Nat) (ret : Option FieldType) (hh : List (Nat × Nat × Nat × Nat)) (ws : List Cond) (rm : Room) (mc ms n : Nat) : Prop :=
  (rm.cells = mc ∧ rm.slots = ms ∧ rm.frames + 1 ≤ R.frames ∧ 8 + (maxL + 11) + rm.locals ≤ R.locals ∧ (∀ w ∈ ws, ∀ (a' : Array Value) (U : State), s.WarmedH U.vm → w.before a' U = true) ∧ Cond.codeWith y bytes maxL ret hh ∈ ws) ∧
  (Cond.codeWith y bytes maxL ret hh).before args s = true ∧ (Cond.initialized y.cls).before args s = true ∧ (y.cls ≠ "java/lang/invoke/MethodHandle" ∧ y.cls ≠ "java/lang/invoke/VarHandle") ∧
  (∀ sig, parseMethodDescriptor y.desc = some sig → n = sig.parameters.length) ∧ (Cond.methodLink own index y).before args s = true ∧ (Cond.static y).before args s = true
theorem vx_cwSW {own : String} {index maxL mc ms : Nat} {y : MethodName} {bytes : ByteArray} {ret : Option FieldType} {hh : List (Nat × Nat × Nat × Nat)} {Ts ws ws' : List Cond} {rm : Room} (n : Nat) (ht : ∀ w ∈ Ts, w.before args s = true) (hT : GoodIn Ts (va_wsS own index y ws)) (hw : ws = Cond.codeWith y bytes maxL ret hh :: ws') (hrc : rm.cells = mc) (hrs : rm.slots = ms)
    (hd : y.cls ≠ "java/lang/invoke/MethodHandle" ∧ y.cls ≠ "java/lang/invoke/VarHandle" ∧ (parseMethodDescriptor y.desc).map (fun d => d.parameters.length) = some n) (hR : rm.frames + 1 ≤ R.frames ∧ 8 + (maxL + 11) + rm.locals ≤ R.locals) :
    vx_CSW R s args own index y bytes maxL ret hh ws rm mc ms n := by
  have ok : ∀ w ∈ va_wsS own index y ws, w.before args s = true := fun w h => ht w (hT w h).1
  have hG : GoodIn Ts ws := fun w h => hT w (by unfold va_wsS; exact List.mem_append_right _ h)
  have hc : Cond.codeWith y bytes maxL ret hh ∈ ws := by rw [hw]; exact List.mem_cons_self
  refine ⟨⟨hrc, hrs, hR.1, hR.2, pay_in ht hG, hc⟩, ht _ (hG _ hc).1, ok _ (by simp [va_wsS]), ⟨hd.1, hd.2.1⟩, fun sig h => ?_, ok _ (by simp [va_wsS]), ok _ (by simp [va_wsS])⟩
  have h2 := hd.2.2
  rw [h] at h2
  exact (Option.some.inj h2).symm
theorem vx_callSW (X : Stand p l e R s m args below meth c T locs cells slots) (hexec : p.tables.exec = Jvm.exec) {own : String} {index : Nat} {y : MethodName} {bytes : ByteArray} {maxL : Nat} {ret : Option FieldType} {hh : List (Nat × Nat × Nat × Nat)}
    (hown : s.vm.findClass own = some m.cls) (hlink : (Cond.methodLink own index y).before args s = true) (hstat : (Cond.static y).before args s = true) (hinit : (Cond.initialized y.cls).before args s = true)
    (hcode : (Cond.codeWith y bytes maxL ret hh).before args s = true) (hy : y.cls ≠ "java/lang/invoke/MethodHandle" ∧ y.cls ≠ "java/lang/invoke/VarHandle")
    {W9 : Nat} {Pre : Pt → Array Value → Prop} {Post : Pt → Array Value → Option Value → Pt → Prop} (hK : Back l R p e below s args y 3 W9 Pre Post)
    {g : JFrame} (hg : g.method = m) (hsize : g.locals.size = c.maxLocals) {argsL rest : List Value} (hlen : ∀ sig, parseMethodDescriptor y.desc = some sig → argsL.length = sig.parameters.length)
    (hstack : g.stack = argsL.reverse ++ rest) (hW : 2 * g.monitorRoom + (rest.map fun v => v.category).sum ≤ W9) (hdg : decode c.code g.pc = .ok (.invokestatic index, 3))
    (hpre : ∀ vm₁, s.WarmedH vm₁ → Pre ⟨T.setVm vm₁, locs, cells, slots⟩ argsL.toArray) :
    ∃ (v : Option Value) (vm₁ : Vm) (B : Pt), s.WarmedH vm₁ ∧ Stand p l e R s m args below meth c B.U B.locs B.cells B.slots ∧ Post ⟨T.setVm vm₁, locs, cells, slots⟩ argsL.toArray v B ∧
      ∀ target, Steps p.tables e below (B.U.setTop { g with pc := g.pc + 3, stack := v.toList ++ rest }) target → Steps p.tables e below (T.setTop g) target := by
  obtain ⟨mk, methM, cM, hnamed, hmethM, -, -, -, -, -, -, hsigM⟩ := Cond.codeWith_spec hcode
  have hstatic : methM.isStatic = true := Cond.static_spec hnamed hmethM hstat
  obtain ⟨kP, hkP, -⟩ := className_of_methodNamed hnamed
  have hinitP : kP.init = .initialized := Cond.initialized_spec (findClass_of_methodNamed hnamed) hkP hinit
  obtain ⟨vm₁, X₁, hstep₁⟩ := X.invokestatic hexec hown hlink hnamed hmethM hstatic hkP hinitP hy (g := g) hg (argsL := argsL) (rest := rest) (hlen _ hsigM) hstack hdg
  obtain ⟨v, B, X', hpost, hsteps⟩ := hK m meth c ⟨T.setVm vm₁, locs, cells, slots⟩ { g with stack := rest } (.invokestatic index) mk argsL.toArray X₁ hg hsize hdg hW (X₁.named hnamed) (hpre vm₁ X₁.warmed)
  exact ⟨v, vm₁, B, X₁.warmed, X', hpost, fun target h => hstep₁ _ fun acts => by rw [doInvoke_state]; exact hsteps.trans h⟩
theorem vx_runSW {y : MethodName} {bytes cc : ByteArray} {maxL nL mc ms n index : Nat} {ret : Option FieldType} {hh : List (Nat × Nat × Nat × Nat)} {ws : List Cond} {rm : Room} {Pc : Array Value → State → Prop} {Qc : Array Value → State → Outcome → State → Prop} {free : Addr → Prop} {Ts : List Cond} {own : String} {As rest : List Value} {g : JFrame}
    (S : CallFix p m c cc nL s args Ts own) (hM : Met l y ws rm Pc Qc mc ms free) (cw : vx_CSW R s args own index y bytes maxL ret hh ws rm mc ms n) (hp : PreS s H Pc As)
    (hg : g.method = m) (hn : As.length = n) (hsize : g.locals.size = nL) (hstack : g.stack = As.reverse ++ rest) (hW : 2 * g.monitorRoom + (rest.map fun v => v.category).sum ≤ 8) (hdg : decode cc g.pc = .ok (.invokestatic index, 3)) (hf : cells + mc ≤ R.cells ∧ slots + ms ≤ R.slots) :
    va_Run p l e R s m args below meth c H locs cells slots mc ms g rest (Qc As.toArray) (free) := by
  obtain ⟨⟨hrc, hrs, hfr, hlo, hws, hcw⟩, hcode, hini, hy, hlen, hl, hstt⟩ := cw
  have hK : Back l R p e below s args y 3 8 (PreOf R mc ms Pc) (PostOf Qc mc ms free) := va_backW (hh := hh) (bytes := bytes) (maxL := maxL) (ret := ret) hM hp.1 hrc hrs hfr hlo hws hcw (fun a' U hW => word_at hW (Or.inl (by first | rfl | simp [Cond.onTables, Cond.keeps, Cond.steady])) hini)
  obtain ⟨hx, hb, hml, ho, -⟩ := S
  intro T hT X
  obtain ⟨v, vm₁, ⟨U', l2, c2, s2⟩, hW₁, X', ⟨g', mk, t, L, e1, e2, hq, h1, hL, h2, h3⟩, st⟩ := vx_callSW X hx (hh := hh) (bytes := bytes) (maxL := maxL) (ret := ret) ho hl hstt hini hcode hy hK hg (hsize.trans hml.symm) (argsL := As) (rest := rest) (fun sig h => hn.trans (hlen sig h)) hstack hW (by rw [hb]; exact hdg)
    (fun vm₁ hW₁ => ⟨hf.1, hf.2, hp.2 (T.setVm vm₁) hT hW₁⟩)
  dsimp only [Pt.U, Pt.locs, Pt.cells, Pt.slots] at X' e1 e2 h1 h2 h3 st
  subst h1; subst h2; subst h3
  exact ⟨v, (T.setVm vm₁).calling g' mk As.toArray, t, U', L, hT, X', hL, e1, e2, hq, st⟩
/-- not caught here, past rows that name other classes: it goes on to the caller -/
theorem vx_outP {p : Program} {l : Launch} {e : Env} {R : Room} {s : State} {m : MethodId} {args : Array Value} {below : List Frame} {meth : Method} {c : Code} {H : Heap} {locs : List Loc} {cells slots : Nat} {free : Addr → Prop} {ls : Array Slot} {rest : List Value} {Qc : Array Value → State → Outcome → State → Prop} {XC : String → State → State → Prop}
    {pc : Nat} {own E : String} {ce : Cell} {q : Addr} {mc ms : Nat} (hown : s.vm.findClass own = some m.cls) (hlocks : meth.locks = false)
    (hpass : ∀ z ∈ c.exceptionTable.toList, covers z pc = false ∨ (z.catchType ≠ 0 ∧ ∃ nm : String, (Cond.classLink own z.catchType nm).before args s = true ∧ va_Nc E nm s)) (hcell : H[q]? = some ce) (hv : ce.vm = .none) (hcl : s.vm.findClass E = some ce.cls)
    (hx : ∀ t : State, t.heap = H → s.vm.Alike t.vm → XC E s t) (hf : ∀ z ∈ locs, free z.base) (hc : cells ≤ mc) (hs : slots ≤ ms) :
    vx_W p l e R s m args below meth c H locs cells slots (vx_MQ below Qc XC args s mc ms free) (F0 m pc ls rest) q := by
  intro T hT X
  have hpl : e.platform.magicAccessors = ({} : Platform).magicAccessors := by rw [X.admits.platform]
  obtain ⟨vm', hW', X', st⟩ := X.outThrough hlocks q (g := F0 m pc ls rest) rfl rfl rfl (cell := ce) (by rw [hT]; exact hcell) (by rw [hv]; rfl)
    (by obtain ⟨k9, h9, -⟩ := Vm.findClass_spec hcl; exact ⟨k9, h9⟩) (fun z hz => by
      rcases hpass z hz with h | ⟨hz0, nm, hl1, hn1⟩
      · exact Or.inl h
      · obtain ⟨c6, hc6, hcl6⟩ := Cond.classLink_spec hown hl1 e.platform hpl
        obtain ⟨a8, b8, h1, h2, h3⟩ := hn1
        cases Option.some.inj (h1.symm.trans hcl)
        cases Option.some.inj (h2.symm.trans hc6)
        exact Or.inr ⟨hz0, _, hcl6, h3⟩)
  obtain ⟨g₀, hfr⟩ := X'.frames_eq
  have hcell9 : ((T.setVm vm').setFrames (.throwing q :: below)).heap[q]? = some ce := by
    show T.heap[q]? = some ce
    rw [hT]; exact hcell
  have hend : Ended ((T.setVm vm').setFrames (.throwing q :: below)) below (.threw q) := State.frames_setFrames _ (State.cur_lt_of_frames hfr)
  refine ⟨(T.setVm vm').setFrames (.throwing q :: below), ?_, .threw q, X'.here.running, hend, Or.inr ⟨q, rfl, E, ce, locs, hx _ hT (X'.ends _).1.alike, hcell9, hv, hcl, (X'.ends _).1, (X'.ends _).2.mono hc hs, hf⟩⟩
  rw [X.pushThrowing_eq]
  exact st
/-- a thing of a world lies in the heap -/
theorem vx_lt {D : va_G} {cl : List vw_C} {ws : va_W} {H1 : Heap} (h : va_P D cl ws H1) {k : Nat} {q : Nat × va_E} (hk : ws[k]? = some q) : q.1 < H1.size := (h k q hk).lt
end VXS
/-! ===== END ===== -/
/-! ===== BEGIN methods with a table of their own: called by a name, returning or throwing ===== -/
section VXH
/-! vx_backW, vx_callVX, vx_callSX, vx_callVW, vx_runVW, vx_runVX, vx_runSX, vx_ofWH follow the same proofs as their sisters above (Free/Laws.lean, Shelf42/LK1.lean); vx_outP calls Shelf42/NT130.lean (outThrough). -/
section
variable {l : Launch} {R : Room} {p : Program} {e : Env} {below : List Frame} {s : State} {sargs : Array Value} {y : MethodName} {len W9 : Nat}
theorem vx_backW {ws : List Cond} {rm : Room} {Pc : Array Value → State → Prop} {Qc : Array Value → State → Outcome → State → Prop} {XC : String → State → State → Prop} {mc ms : Nat} {free : Addr → Prop} {bytes : ByteArray} {maxL : Nat} {ret : Option FieldType} {hh : List (Nat × Nat × Nat × Nat)}
    (hM : vx_Met l y ws rm Pc Qc XC mc ms free) (hblind : FrameBlind Pc) (hrc : rm.cells = mc) (hrs : rm.slots = ms)
    (hframes : rm.frames + 1 ≤ R.frames) (hlocals : W9 + (maxL + 11) + rm.locals ≤ R.locals)
    (hws : ∀ w ∈ ws, ∀ a' U, s.WarmedH U.vm → w.before a' U = true) (hcode : Cond.codeWith y bytes maxL ret hh ∈ ws) (hinit : ∀ a' U, s.WarmedH U.vm → (Cond.initialized y.cls).before a' U = true) :
    vx_Back l R p e below s sargs y len W9 (PreOf R mc ms Pc) (PostOf Qc mc ms free) (vx_Post XC mc ms free) := by
  intro m meth c A g ig mk a X hg hsize hdg hW hn hp
  have h1 : (headSpec ws rm).pre.before a A.U = true := atoms_intro fun w hw => hws w hw _ _ X.warmed
  have h2 : (Cond.codeWith y bytes maxL ret hh).before a A.U = true := hws _ hcode _ _ X.warmed
  have h3 : (Cond.initialized y.cls).before a A.U = true := hinit _ _ X.warmed
  have h4 : A.cells + (headSpec ws rm).room.cells ≤ R.cells := by rw [show (headSpec ws rm).room.cells = mc from hrc]; exact hp.1
  have h5 : A.slots + (headSpec ws rm).room.slots ≤ R.slots := by rw [show (headSpec ws rm).room.slots = ms from hrs]; exact hp.2.1
  have hPc : Pc a (A.U.calling g mk a) := hblind _ _ _ _ hp.2.2
  obtain ⟨U, Ls, c0, s0⟩ := A
  dsimp only [Pt.U, Pt.locs, Pt.cells, Pt.slots] at h1 h2 h3 h4 h5 X hn hPc ⊢
  obtain ⟨m9, methY, cY, hn9, hmY, hcY, -, hlY, -⟩ := Cond.codeWith_spec h2
  cases Option.some.inj (hn9.symm.trans hn)
  obtain ⟨kY, hkY, -⟩ := className_of_methodNamed hn
  have hinitY : kY.init = .initialized := Cond.initialized_spec (findClass_of_methodNamed hn) hkY h3
  have h : At U g.method c below := by rw [hg]; exact X.here
  have hlocals9 : W9 + (maxL + 11) + (headSpec ws rm).room.locals ≤ R.locals := hlocals
  have happ : (headSpec ws rm).appliesLoose y e.platform (U.calling g mk a) = true :=
    Spec.appliesLoose_calling (g := g) h hdg hn hkY hinitY
      (X.room_calling (g := g) (R' := (headSpec ws rm).room) hsize hmY hcY hframes (by rw [hlY]; omega) h4 h5) h1
  obtain ⟨mid, hmid⟩ := h.above
  have hfr : (U.setTop g).frames = (.java g :: mid) ++ below := by rw [State.frames_setTop' g h.top, hmid]; rfl
  obtain ⟨o, s₂, hsteps, -, hend, hq⟩ := Steps.callFree hM p X.admits X.cas X.clock (acts := []) hfr happ hPc trivial
  have hq' : vx_Q Qc XC mc ms free a (U.calling g mk a) o s₂ := hq
  rw [State.frames_setTop' g h.top] at hend
  obtain ⟨g₀, hg0⟩ := Option.isSome_iff_exists.mp h.top
  obtain ⟨r, hr⟩ := State.topJava?_eq_some.mp hg0
  have hr' : (({ U with heap := s₂.heap, slotsUsed := s₂.slotsUsed } : State).setVm s₂.vm).frames = .java g₀ :: r := hr
  rcases hq' with ⟨hqc, L, hfe, hL⟩ | ⟨q, rfl, E, ce, L, hx, hce, hcv, hcl, hW₂, hsm, hL⟩
  · obtain ⟨⟨v, rfl⟩, hW₂, e2, q2, q3, q4, q5, q6⟩ := id hfe
    have e3 : s₂ = ({ (U.calling g mk a).setFrames s₂.frames with heap := s₂.heap, slotsUsed := s₂.slotsUsed } : State).setVm s₂.vm := by
      have : s₂ = ({ s₂ with vm := (U.calling g mk a).vm } : State).setVm s₂.vm := rfl
      rw [e2] at this
      exact this
    obtain ⟨c₂, i₂, len₂, hc₂, hd₂, hf₂⟩ := hend
    have hW' : U.WarmedH s₂.vm := hW₂
    have hcc : c₂ = c := by
      have h1 : s₂.code? g.method = U.code? g.method := by
        rw [State.code?_eq, State.code?_eq, hW'.alike.method?]
      exact Option.some.inj (hc₂.symm.trans (h1.trans h.code))
    subst hcc
    have hlen : len₂ = len := by rw [hdg] at hd₂; cases hd₂; rfl
    subst hlen
    have hs₂ : s₂ = (({ U with heap := s₂.heap, slotsUsed := s₂.slotsUsed } : State).setVm s₂.vm).setTop { g with pc := g.pc + len₂, stack := v.toList ++ g.stack } := by
      refine e3.trans ?_
      rw [hf₂, State.calling_eq h.top, State.setFrames_setFrames, State.setTop_of_frames _ hr', hr]
      rfl
    have hsame : U.sameButNew ({ U with heap := s₂.heap, slotsUsed := s₂.slotsUsed } : State) L mc ms := by
      refine ⟨?_, q2, q3, q4, q5, q6⟩
      obtain ⟨t, ht, -⟩ := State.frames_cons hr
      show ({ U with heap := s₂.heap, slotsUsed := s₂.slotsUsed } : State) = { U.setFrames U.frames with heap := s₂.heap, slotsUsed := s₂.slotsUsed }
      rw [State.setFrames_self ht]
    subst hg
    refine Or.inl ⟨v, ⟨(({ U with heap := s₂.heap, slotsUsed := s₂.slotsUsed } : State).setVm s₂.vm), Ls ++ L, c0 + mc, s0 + ms⟩,
      ⟨X.admits, X.cas, X.clock, X.frames, X.room, X.hears, X.method, X.code, (X.here.setHeapUsed s₂.heap s₂.slotsUsed).setVm hW'.alike, X.tail, State.WarmedH.trans X.warmed hW', X.limits, X.bytes, X.same.trans (hsame.setVm s.vm)⟩,
      ⟨g, mk, s₂, L, rfl, rfl, hqc, rfl, hL, rfl, rfl⟩, ?_⟩
    show Steps p.tables e below _ ((({ U with heap := s₂.heap, slotsUsed := s₂.slotsUsed } : State).setVm s₂.vm).setTop { g with pc := g.pc + len₂, stack := v.toList ++ g.stack })
    rw [← hs₂]
    exact hsteps
  · obtain ⟨e2, q2, q3, q4, q5, q6⟩ := id hsm
    have e3 : s₂ = ({ (U.calling g mk a).setFrames s₂.frames with heap := s₂.heap, slotsUsed := s₂.slotsUsed } : State).setVm s₂.vm := by
      have : s₂ = ({ s₂ with vm := (U.calling g mk a).vm } : State).setVm s₂.vm := rfl
      rw [e2] at this
      exact this
    have hf₂ : s₂.frames = .throwing q :: .java g :: U.frames.tail := hend
    have hW' : U.WarmedH s₂.vm := hW₂
    have hs₂ : s₂ = ((({ U with heap := s₂.heap, slotsUsed := s₂.slotsUsed } : State).setVm s₂.vm).setTop g).pushFrame (.throwing q) := by
      refine e3.trans ?_
      rw [hf₂, State.calling_eq h.top, State.setFrames_setFrames, State.pushFrame, State.frames_setTop _ hr', State.setTop_of_frames _ hr', State.setFrames_setFrames, hr]
      rfl
    have hsame : U.sameButNew ({ U with heap := s₂.heap, slotsUsed := s₂.slotsUsed } : State) L mc ms := by
      refine ⟨?_, q2, q3, q4, q5, q6⟩
      obtain ⟨t, ht, -⟩ := State.frames_cons hr
      show ({ U with heap := s₂.heap, slotsUsed := s₂.slotsUsed } : State) = { U.setFrames U.frames with heap := s₂.heap, slotsUsed := s₂.slotsUsed }
      rw [State.setFrames_self ht]
    subst hg
    refine Or.inr ⟨q, ⟨(({ U with heap := s₂.heap, slotsUsed := s₂.slotsUsed } : State).setVm s₂.vm), Ls ++ L, c0 + mc, s0 + ms⟩,
      ⟨X.admits, X.cas, X.clock, X.frames, X.room, X.hears, X.method, X.code, (X.here.setHeapUsed s₂.heap s₂.slotsUsed).setVm hW'.alike, X.tail, State.WarmedH.trans X.warmed hW', X.limits, X.bytes, X.same.trans (hsame.setVm s.vm)⟩,
      ⟨g, mk, s₂, L, E, ce, rfl, rfl, hx, hce, hcv, hcl, rfl, hL, rfl, rfl⟩, ?_⟩
    show Steps p.tables e below _ (((({ U with heap := s₂.heap, slotsUsed := s₂.slotsUsed } : State).setVm s₂.vm).setTop g).pushFrame (.throwing q))
    rw [← hs₂]
    exact hsteps
end
variable {p : Program} {l : Launch} {e : Env} {R : Room} {s : State} {m : MethodId} {args : Array Value} {below : List Frame} {meth : Method} {c : Code} {T : State} {H : Heap} {locs : List Loc} {cells slots : Nat}
theorem vx_callVX (X : Stand p l e R s m args below meth c T locs cells slots) (hexec : p.tables.exec = Jvm.exec) {own C : String} {index : Nat} {y : MethodName} {bytes : ByteArray} {maxL : Nat} {ret : Option FieldType} {hh : List (Nat × Nat × Nat × Nat)}
    (hown : s.vm.findClass own = some m.cls) (hlink : (Cond.methodLink own index y).before args s = true) (hinst : (Cond.instanceMethod y).before args s = true) (hsel : (Cond.selects C y y).before args s = true)
    (hcode : (Cond.codeWith y bytes maxL ret hh).before args s = true) (hy : y.cls ≠ "java/lang/invoke/MethodHandle" ∧ y.cls ≠ "java/lang/invoke/VarHandle")
    {W9 : Nat} {Pre : Pt → Array Value → Prop} {Post : Pt → Array Value → Option Value → Pt → Prop} {PostX : Pt → Array Value → Addr → Pt → Prop} (hK : vx_Back l R p e below s args y 3 W9 Pre Post PostX)
    {b : Addr} {cellB : Cell} (hcell : T.heap[b]? = some cellB) (hobj : cellB.vm.isStatics = false) (hcls : s.vm.findClass C = some cellB.cls)
    {g : JFrame} (hg : g.method = m) (hsize : g.locals.size = c.maxLocals) {argsL rest : List Value} (hlen : ∀ sig, parseMethodDescriptor y.desc = some sig → argsL.length = sig.parameters.length)
    (hstack : g.stack = argsL.reverse ++ .ref b :: rest) (hW : 2 * g.monitorRoom + (rest.map fun v => v.category).sum ≤ W9) (hdg : decode c.code g.pc = .ok (.invokevirtual index, 3))
    (hpre : ∀ vm₁, s.WarmedH vm₁ → Pre ⟨T.setVm vm₁, locs, cells, slots⟩ (Value.ref b :: argsL).toArray) :
    (∃ (v : Option Value) (vm₁ : Vm) (B : Pt), s.WarmedH vm₁ ∧ Stand p l e R s m args below meth c B.U B.locs B.cells B.slots ∧ Post ⟨T.setVm vm₁, locs, cells, slots⟩ (Value.ref b :: argsL).toArray v B ∧
      ∀ target, Steps p.tables e below (B.U.setTop { g with pc := g.pc + 3, stack := v.toList ++ rest }) target → Steps p.tables e below (T.setTop g) target) ∨
    (∃ (q : Addr) (vm₁ : Vm) (B : Pt), s.WarmedH vm₁ ∧ Stand p l e R s m args below meth c B.U B.locs B.cells B.slots ∧ PostX ⟨T.setVm vm₁, locs, cells, slots⟩ (Value.ref b :: argsL).toArray q B ∧
      Steps p.tables e below (T.setTop g) ((B.U.setTop { g with stack := rest }).pushFrame (.throwing q))) := by
  obtain ⟨mk, methM, hnamed, hmethM, hstM, habM⟩ := Cond.instanceMethod_spec hinst
  obtain ⟨m8, methM', cM, hn8, hmethM', -, -, -, -, -, -, hsigM⟩ := Cond.codeWith_spec hcode
  cases Option.some.inj (hn8.symm.trans hnamed)
  cases hmethM.symm.trans hmethM'
  obtain ⟨c2, r2, m2, q1, q2, q3, q4, kP, hkP, hkPi⟩ := Cond.selects_spec hsel
  cases hcls.symm.trans q1
  cases (State.methodFound?_of_named hnamed hy).symm.trans q2
  cases hnamed.symm.trans q3
  have hselP : selectMethod e.platform s.vm cellB.cls mk = .method mk := by rw [Launch.admits_selectMethod X.admits]; exact q4
  obtain ⟨vm₁, X₁, hstep₁⟩ := X.invokevirtual hexec hown hlink hnamed hmethM hstM hkP hkPi hy (a := b) (cell := cellB) hcell
    (fun z h => by rw [h] at hobj; cases hobj) hselP hmethM habM hkP hkPi (g := g) hg (argsL := argsL) (rest := rest) (hlen _ hsigM) hstack hdg
  rcases hK m meth c ⟨T.setVm vm₁, locs, cells, slots⟩ { g with stack := rest } (.invokevirtual index) mk (Value.ref b :: argsL).toArray X₁ hg hsize hdg hW (X₁.named hnamed) (hpre vm₁ X₁.warmed) with ⟨v, B, X', hpost, hsteps⟩ | ⟨q, B, X', hpost, hsteps⟩
  · exact Or.inl ⟨v, vm₁, B, X₁.warmed, X', hpost, fun target h => hstep₁ _ fun acts => by rw [doInvoke_state]; exact hsteps.trans h⟩
  · exact Or.inr ⟨q, vm₁, B, X₁.warmed, X', hpost, hstep₁ _ fun acts => by rw [doInvoke_state]; exact hsteps⟩
theorem vx_callSX (X : Stand p l e R s m args below meth c T locs cells slots) (hexec : p.tables.exec = Jvm.exec) {own : String} {index : Nat} {y : MethodName} {bytes : ByteArray} {maxL : Nat} {ret : Option FieldType} {hh : List (Nat × Nat × Nat × Nat)}
    (hown : s.vm.findClass own = some m.cls) (hlink : (Cond.methodLink own index y).before args s = true) (hstat : (Cond.static y).before args s = true) (hinit : (Cond.initialized y.cls).before args s = true)
    (hcode : (Cond.codeWith y bytes maxL ret hh).before args s = true) (hy : y.cls ≠ "java/lang/invoke/MethodHandle" ∧ y.cls ≠ "java/lang/invoke/VarHandle")
    {W9 : Nat} {Pre : Pt → Array Value → Prop} {Post : Pt → Array Value → Option Value → Pt → Prop} {PostX : Pt → Array Value → Addr → Pt → Prop} (hK : vx_Back l R p e below s args y 3 W9 Pre Post PostX)
    {g : JFrame} (hg : g.method = m) (hsize : g.locals.size = c.maxLocals) {argsL rest : List Value} (hlen : ∀ sig, parseMethodDescriptor y.desc = some sig → argsL.length = sig.parameters.length)
    (hstack : g.stack = argsL.reverse ++ rest) (hW : 2 * g.monitorRoom + (rest.map fun v => v.category).sum ≤ W9) (hdg : decode c.code g.pc = .ok (.invokestatic index, 3))
    (hpre : ∀ vm₁, s.WarmedH vm₁ → Pre ⟨T.setVm vm₁, locs, cells, slots⟩ argsL.toArray) :
    (∃ (v : Option Value) (vm₁ : Vm) (B : Pt), s.WarmedH vm₁ ∧ Stand p l e R s m args below meth c B.U B.locs B.cells B.slots ∧ Post ⟨T.setVm vm₁, locs, cells, slots⟩ argsL.toArray v B ∧
      ∀ target, Steps p.tables e below (B.U.setTop { g with pc := g.pc + 3, stack := v.toList ++ rest }) target → Steps p.tables e below (T.setTop g) target) ∨
    (∃ (q : Addr) (vm₁ : Vm) (B : Pt), s.WarmedH vm₁ ∧ Stand p l e R s m args below meth c B.U B.locs B.cells B.slots ∧ PostX ⟨T.setVm vm₁, locs, cells, slots⟩ argsL.toArray q B ∧
      Steps p.tables e below (T.setTop g) ((B.U.setTop { g with stack := rest }).pushFrame (.throwing q))) := by
  obtain ⟨mk, methM, cM, hnamed, hmethM, -, -, -, -, -, -, hsigM⟩ := Cond.codeWith_spec hcode
  have hstatic : methM.isStatic = true := Cond.static_spec hnamed hmethM hstat
  obtain ⟨kP, hkP, -⟩ := className_of_methodNamed hnamed
  have hinitP : kP.init = .initialized := Cond.initialized_spec (findClass_of_methodNamed hnamed) hkP hinit
  obtain ⟨vm₁, X₁, hstep₁⟩ := X.invokestatic hexec hown hlink hnamed hmethM hstatic hkP hinitP hy (g := g) hg (argsL := argsL) (rest := rest) (hlen _ hsigM) hstack hdg
  rcases hK m meth c ⟨T.setVm vm₁, locs, cells, slots⟩ { g with stack := rest } (.invokestatic index) mk argsL.toArray X₁ hg hsize hdg hW (X₁.named hnamed) (hpre vm₁ X₁.warmed) with ⟨v, B, X', hpost, hsteps⟩ | ⟨q, B, X', hpost, hsteps⟩
  · exact Or.inl ⟨v, vm₁, B, X₁.warmed, X', hpost, fun target h => hstep₁ _ fun acts => by rw [doInvoke_state]; exact hsteps.trans h⟩
  · exact Or.inr ⟨q, vm₁, B, X₁.warmed, X', hpost, hstep₁ _ fun acts => by rw [doInvoke_state]; exact hsteps⟩
theorem vx_callVW (X : Stand p l e R s m args below meth c T locs cells slots) (hexec : p.tables.exec = Jvm.exec) {own C : String} {index : Nat} {y : MethodName} {bytes : ByteArray} {maxL : Nat} {ret : Option FieldType} {hh : List (Nat × Nat × Nat × Nat)}
    (hown : s.vm.findClass own = some m.cls) (hlink : (Cond.methodLink own index y).before args s = true) (hinst : (Cond.instanceMethod y).before args s = true) (hsel : (Cond.selects C y y).before args s = true)
    (hcode : (Cond.codeWith y bytes maxL ret hh).before args s = true) (hy : y.cls ≠ "java/lang/invoke/MethodHandle" ∧ y.cls ≠ "java/lang/invoke/VarHandle")
    {W9 : Nat} {Pre : Pt → Array Value → Prop} {Post : Pt → Array Value → Option Value → Pt → Prop} (hK : Back l R p e below s args y 3 W9 Pre Post)
    {b : Addr} {cellB : Cell} (hcell : T.heap[b]? = some cellB) (hobj : cellB.vm.isStatics = false) (hcls : s.vm.findClass C = some cellB.cls)
    {g : JFrame} (hg : g.method = m) (hsize : g.locals.size = c.maxLocals) {argsL rest : List Value} (hlen : ∀ sig, parseMethodDescriptor y.desc = some sig → argsL.length = sig.parameters.length)
    (hstack : g.stack = argsL.reverse ++ .ref b :: rest) (hW : 2 * g.monitorRoom + (rest.map fun v => v.category).sum ≤ W9) (hdg : decode c.code g.pc = .ok (.invokevirtual index, 3))
    (hpre : ∀ vm₁, s.WarmedH vm₁ → Pre ⟨T.setVm vm₁, locs, cells, slots⟩ (Value.ref b :: argsL).toArray) :
    ∃ (v : Option Value) (vm₁ : Vm) (B : Pt), s.WarmedH vm₁ ∧ Stand p l e R s m args below meth c B.U B.locs B.cells B.slots ∧ Post ⟨T.setVm vm₁, locs, cells, slots⟩ (Value.ref b :: argsL).toArray v B ∧
      ∀ target, Steps p.tables e below (B.U.setTop { g with pc := g.pc + 3, stack := v.toList ++ rest }) target → Steps p.tables e below (T.setTop g) target := by
  obtain ⟨mk, methM, hnamed, hmethM, hstM, habM⟩ := Cond.instanceMethod_spec hinst
  obtain ⟨m8, methM', cM, hn8, hmethM', -, -, -, -, -, -, hsigM⟩ := Cond.codeWith_spec hcode
  cases Option.some.inj (hn8.symm.trans hnamed)
  cases hmethM.symm.trans hmethM'
  obtain ⟨c2, r2, m2, q1, q2, q3, q4, kP, hkP, hkPi⟩ := Cond.selects_spec hsel
  cases hcls.symm.trans q1
  cases (State.methodFound?_of_named hnamed hy).symm.trans q2
  cases hnamed.symm.trans q3
  have hselP : selectMethod e.platform s.vm cellB.cls mk = .method mk := by rw [Launch.admits_selectMethod X.admits]; exact q4
  obtain ⟨vm₁, X₁, hstep₁⟩ := X.invokevirtual hexec hown hlink hnamed hmethM hstM hkP hkPi hy (a := b) (cell := cellB) hcell
    (fun z h => by rw [h] at hobj; cases hobj) hselP hmethM habM hkP hkPi (g := g) hg (argsL := argsL) (rest := rest) (hlen _ hsigM) hstack hdg
  obtain ⟨v, B, X', hpost, hsteps⟩ := hK m meth c ⟨T.setVm vm₁, locs, cells, slots⟩ { g with stack := rest } (.invokevirtual index) mk (Value.ref b :: argsL).toArray X₁ hg hsize hdg hW (X₁.named hnamed) (hpre vm₁ X₁.warmed)
  exact ⟨v, vm₁, B, X₁.warmed, X', hpost, fun target h => hstep₁ _ fun acts => by rw [doInvoke_state]; exact hsteps.trans h⟩
abbrev vx_CVW (R : Room) (s : State) (args : Array Value) (own C : String) (index : Nat) (y : MethodName) (bytes : ByteArray) (maxL : Nat) (ret : Option FieldType) (hh : List (Nat × Nat × Nat × Nat)) (ws : List Cond) (rm : Room) (mc ms n : Nat) : Prop :=
  (rm.cells = mc ∧ rm.slots = ms ∧ rm.frames + 1 ≤ R.frames ∧ 8 + (maxL + 11) + rm.locals ≤ R.locals ∧ (∀ w ∈ ws, ∀ (a' : Array Value) (U : State), s.WarmedH U.vm → w.before a' U = true) ∧ Cond.codeWith y bytes maxL ret hh ∈ ws) ∧
  (Cond.codeWith y bytes maxL ret hh).before args s = true ∧ (Cond.initialized y.cls).before args s = true ∧ (y.cls ≠ "java/lang/invoke/MethodHandle" ∧ y.cls ≠ "java/lang/invoke/VarHandle") ∧
  (∀ sig, parseMethodDescriptor y.desc = some sig → n = sig.parameters.length) ∧ (Cond.methodLink own index y).before args s = true ∧ (Cond.instanceMethod y).before args s = true ∧ (Cond.selects C y y).before args s = true
theorem vx_cwVW {own C : String} {index maxL mc ms : Nat} {y : MethodName} {bytes : ByteArray} {ret : Option FieldType} {hh : List (Nat × Nat × Nat × Nat)} {Ts ws ws' : List Cond} {rm : Room} (n : Nat) (ht : ∀ w ∈ Ts, w.before args s = true) (hT : GoodIn Ts (wsV own index C y ws)) (hw : ws = Cond.codeWith y bytes maxL ret hh :: ws') (hrc : rm.cells = mc) (hrs : rm.slots = ms)
    (hd : y.cls = C ∧ y.cls ≠ "java/lang/invoke/MethodHandle" ∧ y.cls ≠ "java/lang/invoke/VarHandle" ∧ (parseMethodDescriptor y.desc).map (fun d => d.parameters.length) = some n) (hR : rm.frames + 1 ≤ R.frames ∧ 8 + (maxL + 11) + rm.locals ≤ R.locals) :
    vx_CVW R s args own C index y bytes maxL ret hh ws rm mc ms n := by
  obtain ⟨hC, hd⟩ := hd
  subst hC
  have ok : ∀ w ∈ wsV own index y.cls y ws, w.before args s = true := fun w h => ht w (hT w h).1
  have hG : GoodIn Ts ws := fun w h => hT w (by unfold wsV; exact List.mem_append_right _ h)
  have hc : Cond.codeWith y bytes maxL ret hh ∈ ws := by rw [hw]; exact List.mem_cons_self
  refine ⟨⟨hrc, hrs, hR.1, hR.2, pay_in ht hG, hc⟩, ht _ (hG _ hc).1, ok _ (by simp [wsV]), ⟨hd.1, hd.2.1⟩, fun sig h => ?_, ok _ (by simp [wsV]), ok _ (by simp [wsV]), ok _ (by simp [wsV])⟩
  have h2 := hd.2.2
  rw [h] at h2
  exact (Option.some.inj h2).symm
theorem vx_runVW {y : MethodName} {bytes cc : ByteArray} {maxL nL mc ms n index : Nat} {ret : Option FieldType} {hh : List (Nat × Nat × Nat × Nat)} {ws : List Cond} {rm : Room} {Pc : Array Value → State → Prop} {Qc : Array Value → State → Outcome → State → Prop} {free : Addr → Prop} {Ts : List Cond} {own C : String} {b : Addr} {As rest : List Value} {g : JFrame}
    (S : CallFix p m c cc nL s args Ts own) (hM : Met l y ws rm Pc Qc mc ms free) (cw : vx_CVW R s args own C index y bytes maxL ret hh ws rm mc ms n) (hp : PreV s H C b Pc As)
    (hg : g.method = m) (hn : As.length = n) (hsize : g.locals.size = nL) (hstack : g.stack = As.reverse ++ .ref b :: rest) (hW : 2 * g.monitorRoom + (rest.map fun v => v.category).sum ≤ 8) (hdg : decode cc g.pc = .ok (.invokevirtual index, 3)) (hf : cells + mc ≤ R.cells ∧ slots + ms ≤ R.slots) :
    va_Run p l e R s m args below meth c H locs cells slots mc ms g rest (Qc (Value.ref b :: As).toArray) free := by
  obtain ⟨⟨hrc, hrs, hfr, hlo, hws, hcw⟩, hcode, hini, hy, hlen, hl, hin, hse⟩ := cw
  have hK : Back l R p e below s args y 3 8 (PreOf R mc ms Pc) (PostOf Qc mc ms free) := va_backW (hh := hh) (bytes := bytes) (maxL := maxL) (ret := ret) hM hp.1 hrc hrs hfr hlo hws hcw (fun a' U hW => word_at hW (Or.inl (by first | rfl | simp [Cond.onTables, Cond.keeps, Cond.steady])) hini)
  obtain ⟨hx, hb, hml, ho, -⟩ := S
  obtain ⟨-, ⟨cellB, hcB, hoB, hclB⟩, hPc⟩ := hp
  intro T hT X
  obtain ⟨v, vm₁, ⟨U', l2, c2, s2⟩, hW₁, X', ⟨g', mk, t, L, e1, e2, hq, h1, hL, h2, h3⟩, st⟩ := vx_callVW X hx (C := C) (hh := hh) (bytes := bytes) (maxL := maxL) (ret := ret) ho hl hin hse hcode hy hK (by rw [hT]; exact hcB) hoB hclB hg (hsize.trans hml.symm) (argsL := As) (rest := rest) (fun sig h => hn.trans (hlen sig h)) hstack hW (by rw [hb]; exact hdg)
    (fun vm₁ hW₁ => ⟨hf.1, hf.2, hPc (T.setVm vm₁) hT hW₁⟩)
  dsimp only [Pt.U, Pt.locs, Pt.cells, Pt.slots] at X' e1 e2 h1 h2 h3 st
  subst h1; subst h2; subst h3
  exact ⟨v, (T.setVm vm₁).calling g' mk (Value.ref b :: As).toArray, t, U', L, hT, X', hL, e1, e2, hq, st⟩
section
variable {y : MethodName} {bytes cc : ByteArray} {maxL nL mc ms n index : Nat} {ret : Option FieldType} {ws : List Cond} {rm : Room} {Pc : Array Value → State → Prop} {Qc : Array Value → State → Outcome → State → Prop} {XC : String → State → State → Prop} {free : Addr → Prop} {Ts : List Cond} {own C : String} {b : Addr} {As rest : List Value} {g : JFrame}
theorem vx_runVX {hh : List (Nat × Nat × Nat × Nat)} (S : CallFix p m c cc nL s args Ts own) (hM : vx_Met l y ws rm Pc Qc XC mc ms free) (cw : vx_CVW R s args own C index y bytes maxL ret hh ws rm mc ms n) (hp : PreV s H C b Pc As)
    (hg : g.method = m) (hn : As.length = n) (hsize : g.locals.size = nL) (hstack : g.stack = As.reverse ++ .ref b :: rest) (hW : 2 * g.monitorRoom + (rest.map fun v => v.category).sum ≤ 8) (hdg : decode cc g.pc = .ok (.invokevirtual index, 3)) (hf : cells + mc ≤ R.cells ∧ slots + ms ≤ R.slots) :
    vx_Run p l e R s m args below meth c H locs cells slots mc ms g rest (Qc (Value.ref b :: As).toArray) XC free := by
  obtain ⟨⟨hrc, hrs, hfr, hlo, hws, hcw⟩, hcode, hini, hy, hlen, hl, hin, hse⟩ := cw
  have hK : vx_Back l R p e below s args y 3 8 (PreOf R mc ms Pc) (PostOf Qc mc ms free) (vx_Post XC mc ms free) := vx_backW (hh := hh) (bytes := bytes) (maxL := maxL) (ret := ret) hM hp.1 hrc hrs hfr hlo hws hcw (fun a' U hW => word_at hW (Or.inl (by first | rfl | simp [Cond.onTables, Cond.keeps, Cond.steady])) hini)
  obtain ⟨hx, hb, hml, ho, -⟩ := S
  obtain ⟨-, ⟨cellB, hcB, hoB, hclB⟩, hPc⟩ := hp
  intro T hT X
  rcases vx_callVX X hx (C := C) (hh := hh) (bytes := bytes) (maxL := maxL) (ret := ret) ho hl hin hse hcode hy hK (by rw [hT]; exact hcB) hoB hclB hg (hsize.trans hml.symm) (argsL := As) (rest := rest) (fun sig h => hn.trans (hlen sig h)) hstack hW (by rw [hb]; exact hdg)
    (fun vm₁ hW₁ => ⟨hf.1, hf.2, hPc (T.setVm vm₁) hT hW₁⟩) with ⟨v, vm₁, ⟨U', l2, c2, s2⟩, hW₁, X', ⟨g', mk, t, L, e1, e2, hq, h1, hL, h2, h3⟩, st⟩ | ⟨q, vm₁, ⟨U', l2, c2, s2⟩, hW₁, X', ⟨g', mk, t, L, E, ce, e1, e2, hq, hce, hcv, hcl, h1, hL, h2, h3⟩, st⟩
  · dsimp only [Pt.U, Pt.locs, Pt.cells, Pt.slots] at X' e1 e2 h1 h2 h3 st
    subst h1; subst h2; subst h3
    exact Or.inl ⟨v, (T.setVm vm₁).calling g' mk (Value.ref b :: As).toArray, t, U', L, hT, X', hL, e1, e2, hq, st⟩
  · dsimp only [Pt.U, Pt.locs, Pt.cells, Pt.slots] at X' e1 e2 h1 h2 h3 st hcl
    subst h1; subst h2; subst h3
    exact Or.inr ⟨q, (T.setVm vm₁).calling g' mk (Value.ref b :: As).toArray, t, U', L, E, ce, hT, X', hL, e1, e2, hq, hce, hcv, vx_cls hW₁ hcl, st⟩
theorem vx_runSX {hh : List (Nat × Nat × Nat × Nat)} (S : CallFix p m c cc nL s args Ts own) (hM : vx_Met l y ws rm Pc Qc XC mc ms free) (cw : vx_CSW R s args own index y bytes maxL ret hh ws rm mc ms n) (hp : PreS s H Pc As)
    (hg : g.method = m) (hn : As.length = n) (hsize : g.locals.size = nL) (hstack : g.stack = As.reverse ++ rest) (hW : 2 * g.monitorRoom + (rest.map fun v => v.category).sum ≤ 8) (hdg : decode cc g.pc = .ok (.invokestatic index, 3)) (hf : cells + mc ≤ R.cells ∧ slots + ms ≤ R.slots) :
    vx_Run p l e R s m args below meth c H locs cells slots mc ms g rest (Qc As.toArray) XC free := by
  obtain ⟨⟨hrc, hrs, hfr, hlo, hws, hcw⟩, hcode, hini, hy, hlen, hl, hstt⟩ := cw
  have hK : vx_Back l R p e below s args y 3 8 (PreOf R mc ms Pc) (PostOf Qc mc ms free) (vx_Post XC mc ms free) := vx_backW (hh := hh) (bytes := bytes) (maxL := maxL) (ret := ret) hM hp.1 hrc hrs hfr hlo hws hcw (fun a' U hW => word_at hW (Or.inl (by first | rfl | simp [Cond.onTables, Cond.keeps, Cond.steady])) hini)
  obtain ⟨hx, hb, hml, ho, -⟩ := S
  intro T hT X
  rcases vx_callSX X hx (hh := hh) (bytes := bytes) (maxL := maxL) (ret := ret) ho hl hstt hini hcode hy hK hg (hsize.trans hml.symm) (argsL := As) (rest := rest) (fun sig h => hn.trans (hlen sig h)) hstack hW (by rw [hb]; exact hdg)
    (fun vm₁ hW₁ => ⟨hf.1, hf.2, hp.2 (T.setVm vm₁) hT hW₁⟩) with ⟨v, vm₁, ⟨U', l2, c2, s2⟩, hW₁, X', ⟨g', mk, t, L, e1, e2, hq, h1, hL, h2, h3⟩, st⟩ | ⟨q, vm₁, ⟨U', l2, c2, s2⟩, hW₁, X', ⟨g', mk, t, L, E, ce, e1, e2, hq, hce, hcv, hcl, h1, hL, h2, h3⟩, st⟩
  · dsimp only [Pt.U, Pt.locs, Pt.cells, Pt.slots] at X' e1 e2 h1 h2 h3 st
    subst h1; subst h2; subst h3
    exact Or.inl ⟨v, (T.setVm vm₁).calling g' mk As.toArray, t, U', L, hT, X', hL, e1, e2, hq, st⟩
  · dsimp only [Pt.U, Pt.locs, Pt.cells, Pt.slots] at X' e1 e2 h1 h2 h3 st hcl
    subst h1; subst h2; subst h3
    exact Or.inr ⟨q, (T.setVm vm₁).calling g' mk As.toArray, t, U', L, E, ce, hT, X', hL, e1, e2, hq, hce, hcv, vx_cls hW₁ hcl, st⟩
end
end VXH
theorem vx_ofWH {l : Launch} {y : MethodName} {ws ws' : List Cond} {rm : Room} {Pc : Array Value → State → Prop} {Qc : Array Value → State → Outcome → State → Prop} {XC : String → State → State → Prop} {mc ms : Nat} {free : Addr → Prop} {cc : ByteArray} {maxL : Nat} {ret : Option FieldType} {hh : List (Nat × Nat × Nat × Nat)}
    (hy : plainName y.cls = true) (hw : ws = Cond.codeWith y cc maxL ret hh :: ws')
    (body : ∀ p e s m args below meth c s₁, BodyLoose p l y (headSpec ws rm) cc maxL ret e s m args below meth c s₁ → c.maxLocals = maxL → Pc args s →
      W p l e (headSpec ws rm).room s m args below meth c s.heap [] 0 0 (vx_MQ below Qc XC args s mc ms free) (entryFrame m args maxL)) : vx_Met l y ws rm Pc Qc XC mc ms free := by
  refine MetFree.of_bodyS (code := cc) (maxLocals := maxL) (ret := ret) hy ?_ ?_
  · intro args s m h hn
    obtain ⟨m9, meth, c, hn9, h1, h2, h3, h4, -, h5, h6, -⟩ := Cond.codeWith_spec (atoms_spec (ws := ws) h _ (by rw [hw]; exact List.mem_cons_self))
    cases hn.symm.trans hn9
    exact ⟨meth, c, h1, h2, h3, h4, h5, h6⟩
  · intro p e s m args below meth c s₁ B hml hP _
    have hh0 : s₁.heap = s.heap := by rw [B.state]; rfl
    obtain ⟨t, a1, o, b1, b2, b3⟩ := body p e s m args below meth c s₁ B hml hP s₁ hh0 (Stand.of_body B)
    exact ⟨t, o, a1, b1, b2, b3⟩
/-! ===== END ===== -/

/-! ===== BEGIN printed: names, fields, word lists, decode rows ===== -/
def RX0 : String := "RingSeesaw$Ring"
def TX0 : u_T := fun k => match k with
  | 0 => ("RingSeesaw$Ring", "numbers", "[I", true)
  | _ => ("RingSeesaw$Ring", "size", "I", false)
def tyX0 : Nat → FieldType := fun k => match k with
  | 0 => .array .int
  | _ => .int
abbrev wsX00 : List Cond := u_ws RX0 TX0 2
theorem nmX0 : ∀ a, a < 2 → ∀ b, b < 2 → a ≠ b → (TX0 a).2.1 ≠ (TX0 b).2.1 := by decide +kernel
theorem tyX0_ok : ∀ k, k < 2 → parseFieldDescriptor (TX0 k).2.2.1 = some (tyX0 k) := by decide +kernel
abbrev cX0_init : ByteArray := prog_2_method_1_code
def yX0_init : MethodName := ⟨RX0, "<init>", "()V"⟩
abbrev cX0_size : ByteArray := prog_2_method_2_code
def yX0_size : MethodName := ⟨RX0, "size", "()I"⟩
abbrev cX0_at : ByteArray := prog_2_method_3_code
def yX0_at : MethodName := ⟨RX0, "at", "(I)I"⟩
abbrev cX0_write : ByteArray := prog_2_method_4_code
def yX0_write : MethodName := ⟨RX0, "write", "(II)V"⟩
abbrev cX0_clear : ByteArray := prog_2_method_5_code
def yX0_clear : MethodName := ⟨RX0, "clear", "(I)V"⟩
abbrev cX0_copyFrom : ByteArray := prog_2_method_6_code
def yX0_copyFrom : MethodName := ⟨RX0, "copyFrom", "(LRingSeesaw$Ring;)V"⟩
abbrev cX0_rotate : ByteArray := prog_2_method_7_code
def yX0_rotate : MethodName := ⟨RX0, "rotate", "()V"⟩
abbrev cX0_tipBy : ByteArray := prog_2_method_8_code
def yX0_tipBy : MethodName := ⟨RX0, "tipBy", "(II)V"⟩
abbrev cX0_settleBy : ByteArray := prog_2_method_9_code
def yX0_settleBy : MethodName := ⟨RX0, "settleBy", "(I)I"⟩
abbrev cX0_total : ByteArray := prog_2_method_10_code
def yX0_total : MethodName := ⟨RX0, "total", "()I"⟩
abbrev cX0_momentLeft : ByteArray := prog_2_method_11_code
def yX0_momentLeft : MethodName := ⟨RX0, "momentLeft", "()I"⟩
abbrev cX0_firstGreatest : ByteArray := prog_2_method_12_code
def yX0_firstGreatest : MethodName := ⟨RX0, "firstGreatest", "()I"⟩
abbrev cX0_span : ByteArray := prog_2_method_13_code
def yX0_span : MethodName := ⟨RX0, "span", "()I"⟩
abbrev cX0_steepAt : ByteArray := prog_2_method_14_code
def yX0_steepAt : MethodName := ⟨RX0, "steepAt", "(I)Z"⟩
abbrev cX0_firstSteep : ByteArray := prog_2_method_15_code
def yX0_firstSteep : MethodName := ⟨RX0, "firstSteep", "()I"⟩
abbrev cX0_tiltOn : ByteArray := prog_2_method_16_code
def yX0_tiltOn : MethodName := ⟨RX0, "tiltOn", "(I)I"⟩
abbrev cX0_differencesFrom : ByteArray := prog_2_method_17_code
def yX0_differencesFrom : MethodName := ⟨RX0, "differencesFrom", "(LRingSeesaw$Ring;)I"⟩
abbrev cX0_canBecome : ByteArray := prog_2_method_18_code
def yX0_canBecome : MethodName := ⟨RX0, "canBecome", "(LRingSeesaw$Ring;)Z"⟩
abbrev cX0_add : ByteArray := prog_2_method_19_code
def yX0_add : MethodName := ⟨RX0, "add", "(II)V"⟩
abbrev cX0_onRing : ByteArray := prog_2_method_20_code
def yX0_onRing : MethodName := ⟨RX0, "onRing", "(I)I"⟩
def RX1 : String := "RingSeesaw$Way"
def TX1 : u_T := fun k => match k with
  | 0 => ("RingSeesaw$Way", "tips", "[I", true)
  | _ => ("RingSeesaw$Way", "size", "I", false)
def tyX1 : Nat → FieldType := fun k => match k with
  | 0 => .array .int
  | _ => .int
abbrev wsX10 : List Cond := u_ws RX1 TX1 2
theorem nmX1 : ∀ a, a < 2 → ∀ b, b < 2 → a ≠ b → (TX1 a).2.1 ≠ (TX1 b).2.1 := by decide +kernel
theorem tyX1_ok : ∀ k, k < 2 → parseFieldDescriptor (TX1 k).2.2.1 = some (tyX1 k) := by decide +kernel
abbrev cX1_init : ByteArray := prog_3_method_1_code
def yX1_init : MethodName := ⟨RX1, "<init>", "()V"⟩
abbrev cX1_find : ByteArray := prog_3_method_2_code
def yX1_find : MethodName := ⟨RX1, "find", "(LRingSeesaw$Ring;LRingSeesaw$Ring;)V"⟩
abbrev cX1_tipsAt : ByteArray := prog_3_method_3_code
def yX1_tipsAt : MethodName := ⟨RX1, "tipsAt", "(I)I"⟩
abbrev cX1_fewest : ByteArray := prog_3_method_4_code
def yX1_fewest : MethodName := ⟨RX1, "fewest", "()I"⟩
abbrev cX1_firstClimb : ByteArray := prog_3_method_5_code
def yX1_firstClimb : MethodName := ⟨RX1, "firstClimb", "(LRingSeesaw$Ring;LRingSeesaw$Ring;)I"⟩
abbrev cX1_awayFrom : ByteArray := prog_3_method_6_code
def yX1_awayFrom : MethodName := ⟨RX1, "awayFrom", "(I)I"⟩
def RX2 : String := "RingSeesaw"
def TX2 : u_T := fun k => match k with
  | 0 => ("RingSeesaw", "ring", "LRingSeesaw$Ring;", true)
  | 1 => ("RingSeesaw", "kept", "[LRingSeesaw$Ring;", true)
  | 2 => ("RingSeesaw", "keptCount", "I", false)
  | 3 => ("RingSeesaw", "tipsDone", "I", false)
  | 4 => ("RingSeesaw", "trial", "LRingSeesaw$Ring;", true)
  | _ => ("RingSeesaw", "way", "LRingSeesaw$Way;", true)
def tyX2 : Nat → FieldType := fun k => match k with
  | 0 => .object "RingSeesaw$Ring"
  | 1 => .array (.object "RingSeesaw$Ring")
  | 2 => .int
  | 3 => .int
  | 4 => .object "RingSeesaw$Ring"
  | _ => .object "RingSeesaw$Way"
abbrev wsX20 : List Cond := u_ws RX2 TX2 6
theorem nmX2 : ∀ a, a < 6 → ∀ b, b < 6 → a ≠ b → (TX2 a).2.1 ≠ (TX2 b).2.1 := by decide +kernel
theorem tyX2_ok : ∀ k, k < 6 → parseFieldDescriptor (TX2 k).2.2.1 = some (tyX2 k) := by decide +kernel
abbrev cX2_init : ByteArray := prog_1_method_1_code
def yX2_init : MethodName := ⟨RX2, "<init>", "()V"⟩
abbrev cX2_lay : ByteArray := prog_1_method_2_code
def yX2_lay : MethodName := ⟨RX2, "lay", "(I)I"⟩
abbrev cX2_put : ByteArray := prog_1_method_3_code
def yX2_put : MethodName := ⟨RX2, "put", "(II)I"⟩
abbrev cX2_tip : ByteArray := prog_1_method_4_code
def yX2_tip : MethodName := ⟨RX2, "tip", "(II)I"⟩
abbrev cX2_turn : ByteArray := prog_1_method_5_code
def yX2_turn : MethodName := ⟨RX2, "turn", "()I"⟩
abbrev cX2_keep : ByteArray := prog_1_method_6_code
def yX2_keep : MethodName := ⟨RX2, "keep", "()I"⟩
abbrev cX2_settle : ByteArray := prog_1_method_7_code
def yX2_settle : MethodName := ⟨RX2, "settle", "(I)I"⟩
abbrev cX2_reach : ByteArray := prog_1_method_8_code
def yX2_reach : MethodName := ⟨RX2, "reach", "(I)I"⟩
abbrev cX2_places : ByteArray := prog_1_method_9_code
def yX2_places : MethodName := ⟨RX2, "places", "()I"⟩
abbrev cX2_numberAt : ByteArray := prog_1_method_10_code
def yX2_numberAt : MethodName := ⟨RX2, "numberAt", "(I)I"⟩
abbrev cX2_targets : ByteArray := prog_1_method_11_code
def yX2_targets : MethodName := ⟨RX2, "targets", "()I"⟩
abbrev cX2_tips : ByteArray := prog_1_method_12_code
def yX2_tips : MethodName := ⟨RX2, "tips", "()I"⟩
abbrev cX2_sum : ByteArray := prog_1_method_13_code
def yX2_sum : MethodName := ⟨RX2, "sum", "()I"⟩
abbrev cX2_moment : ByteArray := prog_1_method_14_code
def yX2_moment : MethodName := ⟨RX2, "moment", "()I"⟩
abbrev cX2_spread : ByteArray := prog_1_method_15_code
def yX2_spread : MethodName := ⟨RX2, "spread", "()I"⟩
abbrev cX2_highest : ByteArray := prog_1_method_16_code
def yX2_highest : MethodName := ⟨RX2, "highest", "()I"⟩
abbrev cX2_isSteep : ByteArray := prog_1_method_17_code
def yX2_isSteep : MethodName := ⟨RX2, "isSteep", "(I)Z"⟩
abbrev cX2_steepPlaces : ByteArray := prog_1_method_18_code
def yX2_steepPlaces : MethodName := ⟨RX2, "steepPlaces", "()I"⟩
abbrev cX2_nextToTip : ByteArray := prog_1_method_19_code
def yX2_nextToTip : MethodName := ⟨RX2, "nextToTip", "()I"⟩
abbrev cX2_tilt : ByteArray := prog_1_method_20_code
def yX2_tilt : MethodName := ⟨RX2, "tilt", "(I)I"⟩
abbrev cX2_levelAxes : ByteArray := prog_1_method_21_code
def yX2_levelAxes : MethodName := ⟨RX2, "levelAxes", "()I"⟩
abbrev cX2_bestAxis : ByteArray := prog_1_method_22_code
def yX2_bestAxis : MethodName := ⟨RX2, "bestAxis", "()I"⟩
abbrev cX2_numberIn : ByteArray := prog_1_method_23_code
def yX2_numberIn : MethodName := ⟨RX2, "numberIn", "(II)I"⟩
abbrev cX2_differences : ByteArray := prog_1_method_24_code
def yX2_differences : MethodName := ⟨RX2, "differences", "(I)I"⟩
abbrev cX2_canReach : ByteArray := prog_1_method_25_code
def yX2_canReach : MethodName := ⟨RX2, "canReach", "(I)Z"⟩
abbrev cX2_reachable : ByteArray := prog_1_method_26_code
def yX2_reachable : MethodName := ⟨RX2, "reachable", "()I"⟩
abbrev cX2_tipsTo : ByteArray := prog_1_method_27_code
def yX2_tipsTo : MethodName := ⟨RX2, "tipsTo", "(II)I"⟩
abbrev cX2_fewestTips : ByteArray := prog_1_method_28_code
def yX2_fewestTips : MethodName := ⟨RX2, "fewestTips", "(I)I"⟩
abbrev cX2_nearestTarget : ByteArray := prog_1_method_29_code
def yX2_nearestTarget : MethodName := ⟨RX2, "nearestTarget", "()I"⟩
abbrev cX2_stepsToRest : ByteArray := prog_1_method_30_code
def yX2_stepsToRest : MethodName := ⟨RX2, "stepsToRest", "()I"⟩
abbrev cX2_spreadAtRest : ByteArray := prog_1_method_31_code
def yX2_spreadAtRest : MethodName := ⟨RX2, "spreadAtRest", "()I"⟩
abbrev cX2_spreadWith : ByteArray := prog_1_method_32_code
def yX2_spreadWith : MethodName := ⟨RX2, "spreadWith", "(II)I"⟩
abbrev cX2_bestPlace : ByteArray := prog_1_method_33_code
def yX2_bestPlace : MethodName := ⟨RX2, "bestPlace", "()I"⟩
abbrev cX2_placeFor : ByteArray := prog_1_method_34_code
def yX2_placeFor : MethodName := ⟨RX2, "placeFor", "(I)I"⟩
abbrev cX2_meanNumber : ByteArray := prog_1_method_35_code
def yX2_meanNumber : MethodName := ⟨RX2, "meanNumber", "()D"⟩
abbrev cX2_digest : ByteArray := prog_1_method_36_code
def yX2_digest : MethodName := ⟨RX2, "digest", "()J"⟩
abbrev cX2_mixedWithPlaces : ByteArray := prog_1_method_37_code
def yX2_mixedWithPlaces : MethodName := ⟨RX2, "mixedWithPlaces", "(J)J"⟩
abbrev cX2_mixedWithTargets : ByteArray := prog_1_method_38_code
def yX2_mixedWithTargets : MethodName := ⟨RX2, "mixedWithTargets", "(J)J"⟩
abbrev cX2_mixed : ByteArray := prog_1_method_39_code
def yX2_mixed : MethodName := ⟨RX2, "mixed", "(JJ)J"⟩
abbrev cX2_requirePlace : ByteArray := prog_1_method_40_code
def yX2_requirePlace : MethodName := ⟨RX2, "requirePlace", "(I)V"⟩
abbrev cX2_requireNumber : ByteArray := prog_1_method_41_code
def yX2_requireNumber : MethodName := ⟨RX2, "requireNumber", "(I)V"⟩
abbrev cX2_requireTimes : ByteArray := prog_1_method_42_code
def yX2_requireTimes : MethodName := ⟨RX2, "requireTimes", "(I)V"⟩
abbrev cX2_requireWayTo : ByteArray := prog_1_method_43_code
def yX2_requireWayTo : MethodName := ⟨RX2, "requireWayTo", "(LRingSeesaw$Ring;)V"⟩
abbrev cX2_keptRing : ByteArray := prog_1_method_44_code
def yX2_keptRing : MethodName := ⟨RX2, "keptRing", "(I)LRingSeesaw$Ring;"⟩
abbrev cX2_fewestTo : ByteArray := prog_1_method_45_code
def yX2_fewestTo : MethodName := ⟨RX2, "fewestTo", "(LRingSeesaw$Ring;)I"⟩
abbrev cX2_tryToRest : ByteArray := prog_1_method_46_code
def yX2_tryToRest : MethodName := ⟨RX2, "tryToRest", "()I"⟩
abbrev cX2_spanAfter : ByteArray := prog_1_method_47_code
def yX2_spanAfter : MethodName := ⟨RX2, "spanAfter", "(II)I"⟩
abbrev cX2_firstPlaceFor : ByteArray := prog_1_method_48_code
def yX2_firstPlaceFor : MethodName := ⟨RX2, "firstPlaceFor", "(ILRingSeesaw$Ring;)I"⟩
def RX3 : String := "RingSeesawLaw$Sim"
def TX3 : u_T := fun k => match k with
  | 0 => ("RingSeesawLaw$Sim", "ring", "[I", false)
  | 1 => ("RingSeesawLaw$Sim", "targets", "[[I", false)
  | _ => ("RingSeesawLaw$Sim", "tips", "I", false)
def tyX3 : Nat → FieldType := fun k => match k with
  | 0 => .array .int
  | 1 => .array (.array .int)
  | _ => .int
abbrev wsX30 : List Cond := u_ws RX3 TX3 3
theorem nmX3 : ∀ a, a < 3 → ∀ b, b < 3 → a ≠ b → (TX3 a).2.1 ≠ (TX3 b).2.1 := by decide +kernel
theorem tyX3_ok : ∀ k, k < 3 → parseFieldDescriptor (TX3 k).2.2.1 = some (tyX3 k) := by decide +kernel
abbrev cX3_init : ByteArray := prog_5_method_1_code
def yX3_init : MethodName := ⟨RX3, "<init>", "()V"⟩
abbrev cX3_with : ByteArray := prog_5_method_2_code
def yX3_with : MethodName := ⟨RX3, "with", "([[I[I)[[I"⟩
abbrev cX3_at : ByteArray := prog_5_method_3_code
def yX3_at : MethodName := ⟨RX3, "at", "([II)I"⟩
abbrev cX3_bend : ByteArray := prog_5_method_4_code
def yX3_bend : MethodName := ⟨RX3, "bend", "([II)I"⟩
abbrev cX3_tipped : ByteArray := prog_5_method_5_code
def yX3_tipped : MethodName := ⟨RX3, "tipped", "([III)[I"⟩
abbrev cX3_steep : ByteArray := prog_5_method_6_code
def yX3_steep : MethodName := ⟨RX3, "steep", "([I)I"⟩
abbrev cX3_spread : ByteArray := prog_5_method_7_code
def yX3_spread : MethodName := ⟨RX3, "spread", "([I)I"⟩
abbrev cX3_sum : ByteArray := prog_5_method_8_code
def yX3_sum : MethodName := ⟨RX3, "sum", "([I)I"⟩
abbrev cX3_moment : ByteArray := prog_5_method_9_code
def yX3_moment : MethodName := ⟨RX3, "moment", "([I)I"⟩
abbrev cX3_tilt : ByteArray := prog_5_method_10_code
def yX3_tilt : MethodName := ⟨RX3, "tilt", "(I)I"⟩
abbrev cX3_can : ByteArray := prog_5_method_11_code
def yX3_can : MethodName := ⟨RX3, "can", "([II)Z"⟩
abbrev cX3_tipsTo : ByteArray := prog_5_method_12_code
def yX3_tipsTo : MethodName := ⟨RX3, "tipsTo", "(I)[I"⟩
abbrev cX3_fewest : ByteArray := prog_5_method_13_code
def yX3_fewest : MethodName := ⟨RX3, "fewest", "(I)I"⟩
abbrev cX3_settle : ByteArray := prog_5_method_14_code
def yX3_settle : MethodName := ⟨RX3, "settle", "(I)I"⟩
abbrev cX3_isSame : ByteArray := prog_5_method_15_code
def yX3_isSame : MethodName := ⟨RX3, "isSame", "(LRingSeesaw;)Z"⟩
def RX4 : String := "RingSeesawModel"
def TX4 : u_T := fun k => match k with
  | _ => ("", "", "", false)
def tyX4 : Nat → FieldType := fun k => match k with
  | _ => .int
abbrev wsX40 : List Cond := u_ws RX4 TX4 0
theorem nmX4 : ∀ a, a < 0 → ∀ b, b < 0 → a ≠ b → (TX4 a).2.1 ≠ (TX4 b).2.1 := by decide +kernel
theorem tyX4_ok : ∀ k, k < 0 → parseFieldDescriptor (TX4 k).2.2.1 = some (tyX4 k) := by decide +kernel
def RJx8e188 : String := "java/lang/Cloneable"
def TJx8e188 : u_T := fun k => match k with
  | _ => ("", "", "", false)
def tyJx8e188 : Nat → FieldType := fun k => match k with
  | _ => .int
abbrev wsJx8e1880 : List Cond := u_ws RJx8e188 TJx8e188 0
theorem nmJx8e188 : ∀ a, a < 0 → ∀ b, b < 0 → a ≠ b → (TJx8e188 a).2.1 ≠ (TJx8e188 b).2.1 := by decide +kernel
theorem tyJx8e188_ok : ∀ k, k < 0 → parseFieldDescriptor (TJx8e188 k).2.2.1 = some (tyJx8e188 k) := by decide +kernel
def RJ9 : String := "java/lang/Math"
def TJ9 : u_T := fun k => match k with
  | _ => ("", "", "", false)
def tyJ9 : Nat → FieldType := fun k => match k with
  | _ => .int
abbrev wsJ90 : List Cond := u_ws RJ9 TJ9 0
theorem nmJ9 : ∀ a, a < 0 → ∀ b, b < 0 → a ≠ b → (TJ9 a).2.1 ≠ (TJ9 b).2.1 := by decide +kernel
theorem tyJ9_ok : ∀ k, k < 0 → parseFieldDescriptor (TJ9 k).2.2.1 = some (tyJ9 k) := by decide +kernel
abbrev cJ9_floorMod_7cf53 : ByteArray := prog_12_method_50_code
def yJ9_floorMod_7cf53 : MethodName := ⟨RJ9, "floorMod", "(II)I"⟩
abbrev cJ9_abs_0f7a4 : ByteArray := prog_12_method_59_code
def yJ9_abs_0f7a4 : MethodName := ⟨RJ9, "abs", "(I)I"⟩
abbrev cJ9_max_7cf53 : ByteArray := prog_12_method_65_code
def yJ9_max_7cf53 : MethodName := ⟨RJ9, "max", "(II)I"⟩
abbrev cJ9_min_7cf53 : ByteArray := prog_12_method_69_code
def yJ9_min_7cf53 : MethodName := ⟨RJ9, "min", "(II)I"⟩
def RJ0 : String := "java/lang/String"
def TJ0 : u_T := fun k => match k with
  | _ => ("", "", "", false)
def tyJ0 : Nat → FieldType := fun k => match k with
  | _ => .int
abbrev wsJ00 : List Cond := u_ws RJ0 TJ0 0
theorem nmJ0 : ∀ a, a < 0 → ∀ b, b < 0 → a ≠ b → (TJ0 a).2.1 ≠ (TJ0 b).2.1 := by decide +kernel
theorem tyJ0_ok : ∀ k, k < 0 → parseFieldDescriptor (TJ0 k).2.2.1 = some (tyJ0 k) := by decide +kernel
def RL : String := "RingSeesawLaw"
abbrev cL_below : ByteArray := method_2_code
def yL_below : MethodName := ⟨RL, "below", "(II)I"⟩
abbrev cL_cell : ByteArray := method_3_code
def yL_cell : MethodName := ⟨RL, "cell", "([II)I"⟩
abbrev cL_act : ByteArray := method_4_code
def yL_act : MethodName := ⟨RL, "act", "(LRingSeesaw;LRingSeesawLaw$Sim;I)Z"⟩
abbrev cL_build : ByteArray := method_5_code
def yL_build : MethodName := ⟨RL, "build", "(LRingSeesaw;[I)LRingSeesawLaw$Sim;"⟩
abbrev cL_law : ByteArray := code
def yL_law : MethodName := ⟨RL, "law", "([I)Z"⟩
def wsX0_init : List Cond := .code yX0_init cX0_init 1 none :: ([.methodLink RX0 3 objectInit, .instanceMethod objectInit, .code objectInit ⟨#[0xb1]⟩ 1 none, .arrayClass .int, .fieldLink RX0 9 "RingSeesaw$Ring" "numbers" "[I", .fieldLink RX0 15 "RingSeesaw$Ring" "size" "I"] ++ wsX00)
def wsX0_size : List Cond := .code yX0_size cX0_size 1 (some .int) :: ([.fieldLink RX0 15 "RingSeesaw$Ring" "size" "I"] ++ wsX00)
def wsX0_at : List Cond := .code yX0_at cX0_at 2 (some .int) :: ([.fieldLink RX0 9 "RingSeesaw$Ring" "numbers" "[I"] ++ wsX00)
def wsX0_write : List Cond := .code yX0_write cX0_write 3 none :: ([.fieldLink RX0 9 "RingSeesaw$Ring" "numbers" "[I"] ++ wsX00)
def wsX0_clear : List Cond := .code yX0_clear cX0_clear 3 none :: ([.fieldLink RX0 15 "RingSeesaw$Ring" "size" "I", .fieldLink RX0 9 "RingSeesaw$Ring" "numbers" "[I", .methodLink RX0 19 yX0_write, .instanceMethod yX0_write, .selects RX0 yX0_write yX0_write, .initialized RX0, .code yX0_write cX0_write 3 none] ++ wsX00)
def wsX0_copyFrom : List Cond := .code yX0_copyFrom cX0_copyFrom 3 none :: ([.fieldLink RX0 15 "RingSeesaw$Ring" "size" "I", .fieldLink RX0 9 "RingSeesaw$Ring" "numbers" "[I", .methodLink RX0 23 yX0_at, .instanceMethod yX0_at, .selects RX0 yX0_at yX0_at, .initialized RX0, .code yX0_at cX0_at 2 (some .int), .methodLink RX0 19 yX0_write, .instanceMethod yX0_write, .selects RX0 yX0_write yX0_write, .code yX0_write cX0_write 3 none] ++ wsX00)
def wsX0_rotate : List Cond := .code yX0_rotate cX0_rotate 3 none :: ([.fieldLink RX0 15 "RingSeesaw$Ring" "size" "I", .methodLink RX0 23 yX0_at, .instanceMethod yX0_at, .selects RX0 yX0_at yX0_at, .initialized RX0, .code yX0_at cX0_at 2 (some .int), .fieldLink RX0 9 "RingSeesaw$Ring" "numbers" "[I", .methodLink RX0 19 yX0_write, .instanceMethod yX0_write, .selects RX0 yX0_write yX0_write, .code yX0_write cX0_write 3 none] ++ wsX00)
def wsX0_add : List Cond := .code yX0_add cX0_add 3 none :: ([.methodLink RX0 23 yX0_at, .instanceMethod yX0_at, .selects RX0 yX0_at yX0_at, .initialized RX0, .code yX0_at cX0_at 2 (some .int), .fieldLink RX0 9 "RingSeesaw$Ring" "numbers" "[I", .methodLink RX0 19 yX0_write, .instanceMethod yX0_write, .selects RX0 yX0_write yX0_write, .code yX0_write cX0_write 3 none] ++ wsX00)
def wsX0_onRing : List Cond := .code yX0_onRing cX0_onRing 2 (some .int) :: ([.fieldLink RX0 15 "RingSeesaw$Ring" "size" "I"] ++ wsX00)
def wsX0_tipBy : List Cond := .code yX0_tipBy cX0_tipBy 3 none :: ([.methodLink RX0 27 yX0_add, .instanceMethod yX0_add, .selects RX0 yX0_add yX0_add, .initialized RX0, .code yX0_add cX0_add 3 none, .methodLink RX0 23 yX0_at, .instanceMethod yX0_at, .selects RX0 yX0_at yX0_at, .code yX0_at cX0_at 2 (some .int), .fieldLink RX0 9 "RingSeesaw$Ring" "numbers" "[I", .methodLink RX0 19 yX0_write, .instanceMethod yX0_write, .selects RX0 yX0_write yX0_write, .code yX0_write cX0_write 3 none, .methodLink RX0 30 yX0_onRing, .instanceMethod yX0_onRing, .selects RX0 yX0_onRing yX0_onRing, .code yX0_onRing cX0_onRing 2 (some .int), .fieldLink RX0 15 "RingSeesaw$Ring" "size" "I"] ++ wsX00)
def wsX0_steepAt : List Cond := .code yX0_steepAt cX0_steepAt 2 (some .boolean) :: ([.methodLink RX0 23 yX0_at, .instanceMethod yX0_at, .selects RX0 yX0_at yX0_at, .initialized RX0, .code yX0_at cX0_at 2 (some .int), .fieldLink RX0 9 "RingSeesaw$Ring" "numbers" "[I", .methodLink RX0 30 yX0_onRing, .instanceMethod yX0_onRing, .selects RX0 yX0_onRing yX0_onRing, .code yX0_onRing cX0_onRing 2 (some .int), .fieldLink RX0 15 "RingSeesaw$Ring" "size" "I"] ++ wsX00)
def wsX0_firstSteep : List Cond := .code yX0_firstSteep cX0_firstSteep 2 (some .int) :: ([.fieldLink RX0 15 "RingSeesaw$Ring" "size" "I", .methodLink RX0 52 yX0_steepAt, .instanceMethod yX0_steepAt, .selects RX0 yX0_steepAt yX0_steepAt, .initialized RX0, .code yX0_steepAt cX0_steepAt 2 (some .boolean), .methodLink RX0 23 yX0_at, .instanceMethod yX0_at, .selects RX0 yX0_at yX0_at, .code yX0_at cX0_at 2 (some .int), .fieldLink RX0 9 "RingSeesaw$Ring" "numbers" "[I", .methodLink RX0 30 yX0_onRing, .instanceMethod yX0_onRing, .selects RX0 yX0_onRing yX0_onRing, .code yX0_onRing cX0_onRing 2 (some .int)] ++ wsX00)
def wsX0_settleBy_r1 : List Cond := [Cond.methodLink RX0 33 yX0_firstSteep, Cond.instanceMethod yX0_firstSteep, Cond.selects RX0 yX0_firstSteep yX0_firstSteep, Cond.initialized RX0, Cond.code yX0_firstSteep cX0_firstSteep 2 (some .int), Cond.fieldLink RX0 15 "RingSeesaw$Ring" "size" "I", Cond.methodLink RX0 52 yX0_steepAt, Cond.instanceMethod yX0_steepAt, Cond.selects RX0 yX0_steepAt yX0_steepAt, Cond.code yX0_steepAt cX0_steepAt 2 (some .boolean), Cond.methodLink RX0 23 yX0_at, Cond.instanceMethod yX0_at, Cond.selects RX0 yX0_at yX0_at, Cond.code yX0_at cX0_at 2 (some .int), Cond.fieldLink RX0 9 "RingSeesaw$Ring" "numbers" "[I", Cond.methodLink RX0 30 yX0_onRing, Cond.instanceMethod yX0_onRing, Cond.selects RX0 yX0_onRing yX0_onRing, Cond.code yX0_onRing cX0_onRing 2 (some .int), Cond.methodLink RX0 37 yX0_tipBy, Cond.instanceMethod yX0_tipBy, Cond.selects RX0 yX0_tipBy yX0_tipBy, Cond.code yX0_tipBy cX0_tipBy 3 none, Cond.methodLink RX0 27 yX0_add]
def wsX0_settleBy_r2 : List Cond := [Cond.instanceMethod yX0_add, Cond.selects RX0 yX0_add yX0_add, Cond.code yX0_add cX0_add 3 none, Cond.methodLink RX0 19 yX0_write, Cond.instanceMethod yX0_write, Cond.selects RX0 yX0_write yX0_write, Cond.code yX0_write cX0_write 3 none]
def wsX0_settleBy : List Cond := .code yX0_settleBy cX0_settleBy 4 (some .int) :: ((wsX0_settleBy_r1 ++ wsX0_settleBy_r2) ++ wsX00)
def wsX0_total : List Cond := .code yX0_total cX0_total 3 (some .int) :: ([.fieldLink RX0 15 "RingSeesaw$Ring" "size" "I", .methodLink RX0 23 yX0_at, .instanceMethod yX0_at, .selects RX0 yX0_at yX0_at, .initialized RX0, .code yX0_at cX0_at 2 (some .int), .fieldLink RX0 9 "RingSeesaw$Ring" "numbers" "[I"] ++ wsX00)
def wsJ9_floorMod_7cf53 : List Cond := .code yJ9_floorMod_7cf53 cJ9_floorMod_7cf53 3 (some .int) :: ([])
def wsX0_momentLeft : List Cond := .code yX0_momentLeft cX0_momentLeft 3 (some .int) :: ([.fieldLink RX0 15 "RingSeesaw$Ring" "size" "I", .methodLink RX0 23 yX0_at, .instanceMethod yX0_at, .selects RX0 yX0_at yX0_at, .initialized RX0, .code yX0_at cX0_at 2 (some .int), .fieldLink RX0 9 "RingSeesaw$Ring" "numbers" "[I", .methodLink RX0 40 yJ9_floorMod_7cf53, .static yJ9_floorMod_7cf53, .initialized RJ9, .code yJ9_floorMod_7cf53 cJ9_floorMod_7cf53 3 (some .int)] ++ wsX00)
def wsX0_firstGreatest : List Cond := .code yX0_firstGreatest cX0_firstGreatest 3 (some .int) :: ([.fieldLink RX0 15 "RingSeesaw$Ring" "size" "I", .methodLink RX0 23 yX0_at, .instanceMethod yX0_at, .selects RX0 yX0_at yX0_at, .initialized RX0, .code yX0_at cX0_at 2 (some .int), .fieldLink RX0 9 "RingSeesaw$Ring" "numbers" "[I"] ++ wsX00)
def wsX0_span : List Cond := .code yX0_span cX0_span 3 (some .int) :: ([.fieldLink RX0 15 "RingSeesaw$Ring" "size" "I", .methodLink RX0 46 Lib.Math.min.name, .static Lib.Math.min.name, .initialized "java/lang/Math", .code Lib.Math.min.name Lib.Math.min.code 2 (some .int), .methodLink RX0 23 yX0_at, .instanceMethod yX0_at, .selects RX0 yX0_at yX0_at, .initialized RX0, .code yX0_at cX0_at 2 (some .int), .fieldLink RX0 9 "RingSeesaw$Ring" "numbers" "[I", .methodLink RX0 49 yX0_firstGreatest, .instanceMethod yX0_firstGreatest, .selects RX0 yX0_firstGreatest yX0_firstGreatest, .code yX0_firstGreatest cX0_firstGreatest 3 (some .int)] ++ wsX00)
def wsX0_tiltOn : List Cond := .code yX0_tiltOn cX0_tiltOn 4 (some .int) :: ([.fieldLink RX0 15 "RingSeesaw$Ring" "size" "I", .methodLink RX0 30 yX0_onRing, .instanceMethod yX0_onRing, .selects RX0 yX0_onRing yX0_onRing, .initialized RX0, .code yX0_onRing cX0_onRing 2 (some .int), .methodLink RX0 23 yX0_at, .instanceMethod yX0_at, .selects RX0 yX0_at yX0_at, .code yX0_at cX0_at 2 (some .int), .fieldLink RX0 9 "RingSeesaw$Ring" "numbers" "[I"] ++ wsX00)
def wsX0_differencesFrom : List Cond := .code yX0_differencesFrom cX0_differencesFrom 4 (some .int) :: ([.fieldLink RX0 15 "RingSeesaw$Ring" "size" "I", .methodLink RX0 23 yX0_at, .instanceMethod yX0_at, .selects RX0 yX0_at yX0_at, .initialized RX0, .code yX0_at cX0_at 2 (some .int), .fieldLink RX0 9 "RingSeesaw$Ring" "numbers" "[I"] ++ wsX00)
def wsX0_canBecome : List Cond := .code yX0_canBecome cX0_canBecome 2 (some .boolean) :: ([.methodLink RX0 56 yX0_total, .instanceMethod yX0_total, .selects RX0 yX0_total yX0_total, .initialized RX0, .code yX0_total cX0_total 3 (some .int), .fieldLink RX0 15 "RingSeesaw$Ring" "size" "I", .methodLink RX0 23 yX0_at, .instanceMethod yX0_at, .selects RX0 yX0_at yX0_at, .code yX0_at cX0_at 2 (some .int), .fieldLink RX0 9 "RingSeesaw$Ring" "numbers" "[I", .methodLink RX0 59 yX0_momentLeft, .instanceMethod yX0_momentLeft, .selects RX0 yX0_momentLeft yX0_momentLeft, .code yX0_momentLeft cX0_momentLeft 3 (some .int), .methodLink RX0 40 yJ9_floorMod_7cf53, .static yJ9_floorMod_7cf53, .initialized RJ9, .code yJ9_floorMod_7cf53 cJ9_floorMod_7cf53 3 (some .int)] ++ wsX00)
def wsX1_init : List Cond := .code yX1_init cX1_init 1 none :: ([.methodLink RX1 3 objectInit, .instanceMethod objectInit, .code objectInit ⟨#[0xb1]⟩ 1 none, .arrayClass .int, .fieldLink RX1 9 "RingSeesaw$Way" "tips" "[I", .fieldLink RX1 15 "RingSeesaw$Way" "size" "I"] ++ wsX10)
def wsX1_firstClimb : List Cond := .code yX1_firstClimb cX1_firstClimb 5 (some .int) :: ([.fieldLink RX1 15 "RingSeesaw$Way" "size" "I", .methodLink RX1 28 yX0_at, .instanceMethod yX0_at, .selects RX0 yX0_at yX0_at, .initialized RX0, .code yX0_at cX0_at 2 (some .int), .fieldLink RX0 9 "RingSeesaw$Ring" "numbers" "[I"] ++ wsX10 ++ wsX00)
def wsX1_find : List Cond := .code yX1_find cX1_find 6 none :: ([.fieldLink RX1 15 "RingSeesaw$Way" "size" "I", .fieldLink RX1 9 "RingSeesaw$Way" "tips" "[I", .methodLink RX1 19 yX0_size, .instanceMethod yX0_size, .selects RX0 yX0_size yX0_size, .initialized RX0, .code yX0_size cX0_size 1 (some .int), .fieldLink RX0 15 "RingSeesaw$Ring" "size" "I", .methodLink RX1 24 yX1_firstClimb, .instanceMethod yX1_firstClimb, .selects RX1 yX1_firstClimb yX1_firstClimb, .initialized RX1, .code yX1_firstClimb cX1_firstClimb 5 (some .int), .methodLink RX1 28 yX0_at, .instanceMethod yX0_at, .selects RX0 yX0_at yX0_at, .code yX0_at cX0_at 2 (some .int), .fieldLink RX0 9 "RingSeesaw$Ring" "numbers" "[I"] ++ wsX10 ++ wsX00)
def wsX1_tipsAt : List Cond := .code yX1_tipsAt cX1_tipsAt 2 (some .int) :: ([.fieldLink RX1 9 "RingSeesaw$Way" "tips" "[I"] ++ wsX10)
def wsX1_awayFrom : List Cond := .code yX1_awayFrom cX1_awayFrom 4 (some .int) :: ([.fieldLink RX1 15 "RingSeesaw$Way" "size" "I", .methodLink RX1 44 Lib.Math.abs.name, .static Lib.Math.abs.name, .initialized "java/lang/Math", .code Lib.Math.abs.name Lib.Math.abs.code 1 (some .int), .methodLink RX1 32 yX1_tipsAt, .instanceMethod yX1_tipsAt, .selects RX1 yX1_tipsAt yX1_tipsAt, .initialized RX1, .code yX1_tipsAt cX1_tipsAt 2 (some .int), .fieldLink RX1 9 "RingSeesaw$Way" "tips" "[I"] ++ wsX10)
def wsX1_fewest : List Cond := .code yX1_fewest cX1_fewest 3 (some .int) :: ([.fieldLink RX1 15 "RingSeesaw$Way" "size" "I", .methodLink RX1 38 Lib.Math.min.name, .static Lib.Math.min.name, .initialized "java/lang/Math", .code Lib.Math.min.name Lib.Math.min.code 2 (some .int), .methodLink RX1 32 yX1_tipsAt, .instanceMethod yX1_tipsAt, .selects RX1 yX1_tipsAt yX1_tipsAt, .initialized RX1, .code yX1_tipsAt cX1_tipsAt 2 (some .int), .fieldLink RX1 9 "RingSeesaw$Way" "tips" "[I", .methodLink RX1 35 yX1_awayFrom, .instanceMethod yX1_awayFrom, .selects RX1 yX1_awayFrom yX1_awayFrom, .code yX1_awayFrom cX1_awayFrom 4 (some .int), .methodLink RX1 44 Lib.Math.abs.name, .static Lib.Math.abs.name, .code Lib.Math.abs.name Lib.Math.abs.code 1 (some .int)] ++ wsX10)
def wsX2_init_r1 : List Cond := [Cond.methodLink RX2 1 objectInit, Cond.instanceMethod objectInit, Cond.code objectInit ⟨#[0xb1]⟩ 1 none, Cond.classLink RX2 7 RX0, Cond.instantiable RX0 2, Cond.initialized RX0, Cond.fieldLink RX2 10 "RingSeesaw" "ring" "LRingSeesaw$Ring;", Cond.fieldLink RX2 16 "RingSeesaw" "kept" "[LRingSeesaw$Ring;", Cond.fieldLink RX2 20 "RingSeesaw" "keptCount" "I", Cond.fieldLink RX2 24 "RingSeesaw" "tipsDone" "I", Cond.fieldLink RX2 27 "RingSeesaw" "trial" "LRingSeesaw$Ring;", Cond.classLink RX2 30 RX1, Cond.instantiable RX1 2, Cond.initialized RX1, Cond.fieldLink RX2 33 "RingSeesaw" "way" "LRingSeesaw$Way;", Cond.instanceMethod yX0_init, Cond.code yX0_init cX0_init 1 none, Cond.methodLink RX0 3 objectInit, Cond.arrayClass .int, Cond.fieldLink RX0 9 "RingSeesaw$Ring" "numbers" "[I", Cond.fieldLink RX0 15 "RingSeesaw$Ring" "size" "I", Cond.instanceMethod yX1_init, Cond.code yX1_init cX1_init 1 none, Cond.methodLink RX1 3 objectInit]
def wsX2_init_r2 : List Cond := [Cond.fieldLink RX1 9 "RingSeesaw$Way" "tips" "[I", Cond.fieldLink RX1 15 "RingSeesaw$Way" "size" "I"]
def wsX2_init : List Cond := .code yX2_init cX2_init 2 none :: ((wsX2_init_r1 ++ wsX2_init_r2) ++ wsX00 ++ wsX20 ++ wsX10)
def wsX2_lay : List Cond := .code yX2_lay cX2_lay 3 (some .int) :: ([.classLink RX2 37 "java/lang/IllegalArgumentException", .initialized "java/lang/IllegalArgumentException", .fieldLink RX2 10 "RingSeesaw" "ring" "LRingSeesaw$Ring;", .fieldLink RX2 20 "RingSeesaw" "keptCount" "I", .methodLink RX2 44 yX0_size, .instanceMethod yX0_size, .selects RX0 yX0_size yX0_size, .initialized RX0, .code yX0_size cX0_size 1 (some .int), .fieldLink RX0 15 "RingSeesaw$Ring" "size" "I", .methodLink RX2 48 yX0_clear, .instanceMethod yX0_clear, .selects RX0 yX0_clear yX0_clear, .code yX0_clear cX0_clear 3 none, .fieldLink RX0 9 "RingSeesaw$Ring" "numbers" "[I", .methodLink RX0 19 yX0_write, .instanceMethod yX0_write, .selects RX0 yX0_write yX0_write, .code yX0_write cX0_write 3 none] ++ wsX20 ++ wsX00 ++ (vx_atS RX2 41 "java/lang/IllegalArgumentException" ["java/lang/RuntimeException", "java/lang/Exception"]).filter goodWord)
def wsX2_requirePlace : List Cond := .code yX2_requirePlace cX2_requirePlace 2 none :: ([.classLink RX2 221 "java/lang/IndexOutOfBoundsException", .initialized "java/lang/IndexOutOfBoundsException", .fieldLink RX2 10 "RingSeesaw" "ring" "LRingSeesaw$Ring;", .methodLink RX2 44 yX0_size, .instanceMethod yX0_size, .selects RX0 yX0_size yX0_size, .initialized RX0, .code yX0_size cX0_size 1 (some .int), .fieldLink RX0 15 "RingSeesaw$Ring" "size" "I"] ++ wsX20 ++ wsX00 ++ (vx_atS RX2 225 "java/lang/IndexOutOfBoundsException" ["java/lang/RuntimeException", "java/lang/Exception"]).filter goodWord)
def wsX2_requireNumber : List Cond := .code yX2_requireNumber cX2_requireNumber 2 none :: ([.classLink RX2 37 "java/lang/IllegalArgumentException", .initialized "java/lang/IllegalArgumentException"] ++ (vx_atS RX2 41 "java/lang/IllegalArgumentException" ["java/lang/RuntimeException", "java/lang/Exception"]).filter goodWord)
def wsX2_put_r1 : List Cond := [Cond.fieldLink RX2 10 "RingSeesaw" "ring" "LRingSeesaw$Ring;", Cond.methodLink RX2 52 yX2_requirePlace, Cond.instanceMethod yX2_requirePlace, Cond.selects RX2 yX2_requirePlace yX2_requirePlace, Cond.initialized RX2, Cond.code yX2_requirePlace cX2_requirePlace 2 none, Cond.classLink RX2 221 "java/lang/IndexOutOfBoundsException", Cond.initialized "java/lang/IndexOutOfBoundsException", Cond.methodLink RX2 44 yX0_size, Cond.instanceMethod yX0_size, Cond.selects RX0 yX0_size yX0_size, Cond.initialized RX0, Cond.code yX0_size cX0_size 1 (some .int), Cond.fieldLink RX0 15 "RingSeesaw$Ring" "size" "I", Cond.methodLink RX2 55 yX2_requireNumber, Cond.instanceMethod yX2_requireNumber, Cond.selects RX2 yX2_requireNumber yX2_requireNumber, Cond.code yX2_requireNumber cX2_requireNumber 2 none, Cond.classLink RX2 37 "java/lang/IllegalArgumentException", Cond.initialized "java/lang/IllegalArgumentException", Cond.methodLink RX2 58 yX0_at, Cond.instanceMethod yX0_at, Cond.selects RX0 yX0_at yX0_at, Cond.code yX0_at cX0_at 2 (some .int)]
def wsX2_put_r2 : List Cond := [Cond.fieldLink RX0 9 "RingSeesaw$Ring" "numbers" "[I", Cond.methodLink RX2 62 yX0_write, Cond.instanceMethod yX0_write, Cond.selects RX0 yX0_write yX0_write, Cond.code yX0_write cX0_write 3 none]
def wsX2_put : List Cond := .code yX2_put cX2_put 4 (some .int) :: ((wsX2_put_r1 ++ wsX2_put_r2) ++ wsX20 ++ wsX00 ++ (vx_atS RX2 225 "java/lang/IndexOutOfBoundsException" ["java/lang/RuntimeException", "java/lang/Exception"]).filter goodWord ++ (vx_atS RX2 41 "java/lang/IllegalArgumentException" ["java/lang/RuntimeException", "java/lang/Exception"]).filter goodWord)
def wsX2_requireTimes : List Cond := .code yX2_requireTimes cX2_requireTimes 2 none :: ([.classLink RX2 37 "java/lang/IllegalArgumentException", .initialized "java/lang/IllegalArgumentException"] ++ (vx_atS RX2 41 "java/lang/IllegalArgumentException" ["java/lang/RuntimeException", "java/lang/Exception"]).filter goodWord)
def wsX2_tip_r1 : List Cond := [Cond.fieldLink RX2 10 "RingSeesaw" "ring" "LRingSeesaw$Ring;", Cond.fieldLink RX2 24 "RingSeesaw" "tipsDone" "I", Cond.methodLink RX2 72 Lib.Math.abs.name, Cond.static Lib.Math.abs.name, Cond.initialized "java/lang/Math", Cond.code Lib.Math.abs.name Lib.Math.abs.code 1 (some .int), Cond.methodLink RX2 52 yX2_requirePlace, Cond.instanceMethod yX2_requirePlace, Cond.selects RX2 yX2_requirePlace yX2_requirePlace, Cond.initialized RX2, Cond.code yX2_requirePlace cX2_requirePlace 2 none, Cond.classLink RX2 221 "java/lang/IndexOutOfBoundsException", Cond.initialized "java/lang/IndexOutOfBoundsException", Cond.methodLink RX2 44 yX0_size, Cond.instanceMethod yX0_size, Cond.selects RX0 yX0_size yX0_size, Cond.initialized RX0, Cond.code yX0_size cX0_size 1 (some .int), Cond.fieldLink RX0 15 "RingSeesaw$Ring" "size" "I", Cond.methodLink RX2 66 yX2_requireTimes, Cond.instanceMethod yX2_requireTimes, Cond.selects RX2 yX2_requireTimes yX2_requireTimes, Cond.code yX2_requireTimes cX2_requireTimes 2 none, Cond.classLink RX2 37 "java/lang/IllegalArgumentException"]
def wsX2_tip_r2 : List Cond := [Cond.initialized "java/lang/IllegalArgumentException", Cond.methodLink RX2 69 yX0_tipBy, Cond.instanceMethod yX0_tipBy, Cond.selects RX0 yX0_tipBy yX0_tipBy, Cond.code yX0_tipBy cX0_tipBy 3 none, Cond.methodLink RX0 27 yX0_add, Cond.instanceMethod yX0_add, Cond.selects RX0 yX0_add yX0_add, Cond.code yX0_add cX0_add 3 none, Cond.methodLink RX0 23 yX0_at, Cond.instanceMethod yX0_at, Cond.selects RX0 yX0_at yX0_at, Cond.code yX0_at cX0_at 2 (some .int), Cond.fieldLink RX0 9 "RingSeesaw$Ring" "numbers" "[I", Cond.methodLink RX0 19 yX0_write, Cond.instanceMethod yX0_write, Cond.selects RX0 yX0_write yX0_write, Cond.code yX0_write cX0_write 3 none, Cond.methodLink RX0 30 yX0_onRing, Cond.instanceMethod yX0_onRing, Cond.selects RX0 yX0_onRing yX0_onRing, Cond.code yX0_onRing cX0_onRing 2 (some .int), Cond.methodLink RX2 58 yX0_at]
def wsX2_tip : List Cond := .code yX2_tip cX2_tip 3 (some .int) :: ((wsX2_tip_r1 ++ wsX2_tip_r2) ++ wsX20 ++ wsX00 ++ (vx_atS RX2 225 "java/lang/IndexOutOfBoundsException" ["java/lang/RuntimeException", "java/lang/Exception"]).filter goodWord ++ (vx_atS RX2 41 "java/lang/IllegalArgumentException" ["java/lang/RuntimeException", "java/lang/Exception"]).filter goodWord)
def wsX2_turn : List Cond := .code yX2_turn cX2_turn 1 (some .int) :: ([.fieldLink RX2 10 "RingSeesaw" "ring" "LRingSeesaw$Ring;", .methodLink RX2 77 yX0_rotate, .instanceMethod yX0_rotate, .selects RX0 yX0_rotate yX0_rotate, .initialized RX0, .code yX0_rotate cX0_rotate 3 none, .fieldLink RX0 15 "RingSeesaw$Ring" "size" "I", .methodLink RX0 23 yX0_at, .instanceMethod yX0_at, .selects RX0 yX0_at yX0_at, .code yX0_at cX0_at 2 (some .int), .fieldLink RX0 9 "RingSeesaw$Ring" "numbers" "[I", .methodLink RX0 19 yX0_write, .instanceMethod yX0_write, .selects RX0 yX0_write yX0_write, .code yX0_write cX0_write 3 none, .methodLink RX2 58 yX0_at] ++ wsX20 ++ wsX00)
def wsX2_keptRing : List Cond := .code yX2_keptRing cX2_keptRing 3 (some (.object "RingSeesaw$Ring")) :: ([.classLink RX2 221 "java/lang/IndexOutOfBoundsException", .initialized "java/lang/IndexOutOfBoundsException", .fieldLink RX2 20 "RingSeesaw" "keptCount" "I", .fieldLink RX2 16 "RingSeesaw" "kept" "[LRingSeesaw$Ring;"] ++ wsX20 ++ (vx_atS RX2 225 "java/lang/IndexOutOfBoundsException" ["java/lang/RuntimeException", "java/lang/Exception"]).filter goodWord)
def wsX2_keep_r1 : List Cond := [Cond.classLink RX2 80 "java/lang/IllegalStateException", Cond.initialized "java/lang/IllegalStateException", Cond.fieldLink RX2 20 "RingSeesaw" "keptCount" "I", Cond.fieldLink RX2 10 "RingSeesaw" "ring" "LRingSeesaw$Ring;", Cond.methodLink RX2 85 yX2_keptRing, Cond.instanceMethod yX2_keptRing, Cond.selects RX2 yX2_keptRing yX2_keptRing, Cond.initialized RX2, Cond.code yX2_keptRing cX2_keptRing 3 (some (.object "RingSeesaw$Ring")), Cond.classLink RX2 221 "java/lang/IndexOutOfBoundsException", Cond.initialized "java/lang/IndexOutOfBoundsException", Cond.fieldLink RX2 16 "RingSeesaw" "kept" "[LRingSeesaw$Ring;", Cond.methodLink RX2 89 yX0_copyFrom, Cond.instanceMethod yX0_copyFrom, Cond.selects RX0 yX0_copyFrom yX0_copyFrom, Cond.initialized RX0, Cond.code yX0_copyFrom cX0_copyFrom 3 none, Cond.fieldLink RX0 15 "RingSeesaw$Ring" "size" "I", Cond.fieldLink RX0 9 "RingSeesaw$Ring" "numbers" "[I", Cond.methodLink RX0 23 yX0_at, Cond.instanceMethod yX0_at, Cond.selects RX0 yX0_at yX0_at, Cond.code yX0_at cX0_at 2 (some .int), Cond.methodLink RX0 19 yX0_write]
def wsX2_keep_r2 : List Cond := [Cond.instanceMethod yX0_write, Cond.selects RX0 yX0_write yX0_write, Cond.code yX0_write cX0_write 3 none]
def wsX2_keep : List Cond := .code yX2_keep cX2_keep 2 (some .int) :: ((wsX2_keep_r1 ++ wsX2_keep_r2) ++ wsX20 ++ wsX00 ++ (vx_atS RX2 84 "java/lang/IllegalStateException" ["java/lang/RuntimeException", "java/lang/Exception"]).filter goodWord ++ (vx_atS RX2 225 "java/lang/IndexOutOfBoundsException" ["java/lang/RuntimeException", "java/lang/Exception"]).filter goodWord)
def wsX2_settle_r1 : List Cond := [Cond.classLink RX2 37 "java/lang/IllegalArgumentException", Cond.initialized "java/lang/IllegalArgumentException", Cond.fieldLink RX2 10 "RingSeesaw" "ring" "LRingSeesaw$Ring;", Cond.fieldLink RX2 24 "RingSeesaw" "tipsDone" "I", Cond.methodLink RX2 95 yX0_settleBy, Cond.instanceMethod yX0_settleBy, Cond.selects RX0 yX0_settleBy yX0_settleBy, Cond.initialized RX0, Cond.code yX0_settleBy cX0_settleBy 4 (some .int), Cond.methodLink RX0 33 yX0_firstSteep, Cond.instanceMethod yX0_firstSteep, Cond.selects RX0 yX0_firstSteep yX0_firstSteep, Cond.code yX0_firstSteep cX0_firstSteep 2 (some .int), Cond.fieldLink RX0 15 "RingSeesaw$Ring" "size" "I", Cond.methodLink RX0 52 yX0_steepAt, Cond.instanceMethod yX0_steepAt, Cond.selects RX0 yX0_steepAt yX0_steepAt, Cond.code yX0_steepAt cX0_steepAt 2 (some .boolean), Cond.methodLink RX0 23 yX0_at, Cond.instanceMethod yX0_at, Cond.selects RX0 yX0_at yX0_at, Cond.code yX0_at cX0_at 2 (some .int), Cond.fieldLink RX0 9 "RingSeesaw$Ring" "numbers" "[I", Cond.methodLink RX0 30 yX0_onRing]
def wsX2_settle_r2 : List Cond := [Cond.instanceMethod yX0_onRing, Cond.selects RX0 yX0_onRing yX0_onRing, Cond.code yX0_onRing cX0_onRing 2 (some .int), Cond.methodLink RX0 37 yX0_tipBy, Cond.instanceMethod yX0_tipBy, Cond.selects RX0 yX0_tipBy yX0_tipBy, Cond.code yX0_tipBy cX0_tipBy 3 none, Cond.methodLink RX0 27 yX0_add, Cond.instanceMethod yX0_add, Cond.selects RX0 yX0_add yX0_add, Cond.code yX0_add cX0_add 3 none, Cond.methodLink RX0 19 yX0_write, Cond.instanceMethod yX0_write, Cond.selects RX0 yX0_write yX0_write, Cond.code yX0_write cX0_write 3 none]
def wsX2_settle : List Cond := .code yX2_settle cX2_settle 3 (some .int) :: ((wsX2_settle_r1 ++ wsX2_settle_r2) ++ wsX20 ++ wsX00 ++ (vx_atS RX2 41 "java/lang/IllegalArgumentException" ["java/lang/RuntimeException", "java/lang/Exception"]).filter goodWord)
def wsX2_requireWayTo_r1 : List Cond := [Cond.classLink RX2 80 "java/lang/IllegalStateException", Cond.initialized "java/lang/IllegalStateException", Cond.fieldLink RX2 10 "RingSeesaw" "ring" "LRingSeesaw$Ring;", Cond.methodLink RX2 130 yX0_canBecome, Cond.instanceMethod yX0_canBecome, Cond.selects RX0 yX0_canBecome yX0_canBecome, Cond.initialized RX0, Cond.code yX0_canBecome cX0_canBecome 2 (some .boolean), Cond.methodLink RX0 56 yX0_total, Cond.instanceMethod yX0_total, Cond.selects RX0 yX0_total yX0_total, Cond.code yX0_total cX0_total 3 (some .int), Cond.fieldLink RX0 15 "RingSeesaw$Ring" "size" "I", Cond.methodLink RX0 23 yX0_at, Cond.instanceMethod yX0_at, Cond.selects RX0 yX0_at yX0_at, Cond.code yX0_at cX0_at 2 (some .int), Cond.fieldLink RX0 9 "RingSeesaw$Ring" "numbers" "[I", Cond.methodLink RX0 59 yX0_momentLeft, Cond.instanceMethod yX0_momentLeft, Cond.selects RX0 yX0_momentLeft yX0_momentLeft, Cond.code yX0_momentLeft cX0_momentLeft 3 (some .int), Cond.methodLink RX0 40 yJ9_floorMod_7cf53, Cond.static yJ9_floorMod_7cf53]
def wsX2_requireWayTo_r2 : List Cond := [Cond.initialized RJ9, Cond.code yJ9_floorMod_7cf53 cJ9_floorMod_7cf53 3 (some .int)]
def wsX2_requireWayTo : List Cond := .code yX2_requireWayTo cX2_requireWayTo 2 none :: ((wsX2_requireWayTo_r1 ++ wsX2_requireWayTo_r2) ++ wsX20 ++ wsX00 ++ (vx_atS RX2 84 "java/lang/IllegalStateException" ["java/lang/RuntimeException", "java/lang/Exception"]).filter goodWord)
def wsX2_fewestTo_r1 : List Cond := [Cond.fieldLink RX2 10 "RingSeesaw" "ring" "LRingSeesaw$Ring;", Cond.fieldLink RX2 33 "RingSeesaw" "way" "LRingSeesaw$Way;", Cond.methodLink RX2 130 yX0_canBecome, Cond.instanceMethod yX0_canBecome, Cond.selects RX0 yX0_canBecome yX0_canBecome, Cond.initialized RX0, Cond.code yX0_canBecome cX0_canBecome 2 (some .boolean), Cond.methodLink RX0 56 yX0_total, Cond.instanceMethod yX0_total, Cond.selects RX0 yX0_total yX0_total, Cond.code yX0_total cX0_total 3 (some .int), Cond.fieldLink RX0 15 "RingSeesaw$Ring" "size" "I", Cond.methodLink RX0 23 yX0_at, Cond.instanceMethod yX0_at, Cond.selects RX0 yX0_at yX0_at, Cond.code yX0_at cX0_at 2 (some .int), Cond.fieldLink RX0 9 "RingSeesaw$Ring" "numbers" "[I", Cond.methodLink RX0 59 yX0_momentLeft, Cond.instanceMethod yX0_momentLeft, Cond.selects RX0 yX0_momentLeft yX0_momentLeft, Cond.code yX0_momentLeft cX0_momentLeft 3 (some .int), Cond.methodLink RX0 40 yJ9_floorMod_7cf53, Cond.static yJ9_floorMod_7cf53, Cond.initialized RJ9]
def wsX2_fewestTo_r2 : List Cond := [Cond.code yJ9_floorMod_7cf53 cJ9_floorMod_7cf53 3 (some .int), Cond.methodLink RX2 134 yX1_find, Cond.instanceMethod yX1_find, Cond.selects RX1 yX1_find yX1_find, Cond.initialized RX1, Cond.code yX1_find cX1_find 6 none, Cond.fieldLink RX1 15 "RingSeesaw$Way" "size" "I", Cond.fieldLink RX1 9 "RingSeesaw$Way" "tips" "[I", Cond.methodLink RX1 19 yX0_size, Cond.instanceMethod yX0_size, Cond.selects RX0 yX0_size yX0_size, Cond.code yX0_size cX0_size 1 (some .int), Cond.methodLink RX1 24 yX1_firstClimb, Cond.instanceMethod yX1_firstClimb, Cond.selects RX1 yX1_firstClimb yX1_firstClimb, Cond.code yX1_firstClimb cX1_firstClimb 5 (some .int), Cond.methodLink RX1 28 yX0_at, Cond.methodLink RX2 234 yX1_fewest, Cond.instanceMethod yX1_fewest, Cond.selects RX1 yX1_fewest yX1_fewest, Cond.code yX1_fewest cX1_fewest 3 (some .int), Cond.methodLink RX1 38 Lib.Math.min.name, Cond.static Lib.Math.min.name, Cond.initialized "java/lang/Math"]
def wsX2_fewestTo_r3 : List Cond := [Cond.code Lib.Math.min.name Lib.Math.min.code 2 (some .int), Cond.methodLink RX1 32 yX1_tipsAt, Cond.instanceMethod yX1_tipsAt, Cond.selects RX1 yX1_tipsAt yX1_tipsAt, Cond.code yX1_tipsAt cX1_tipsAt 2 (some .int), Cond.methodLink RX1 35 yX1_awayFrom, Cond.instanceMethod yX1_awayFrom, Cond.selects RX1 yX1_awayFrom yX1_awayFrom, Cond.code yX1_awayFrom cX1_awayFrom 4 (some .int), Cond.methodLink RX1 44 Lib.Math.abs.name, Cond.static Lib.Math.abs.name, Cond.code Lib.Math.abs.name Lib.Math.abs.code 1 (some .int)]
def wsX2_fewestTo : List Cond := .code yX2_fewestTo cX2_fewestTo 2 (some .int) :: ((wsX2_fewestTo_r1 ++ (wsX2_fewestTo_r2 ++ wsX2_fewestTo_r3)) ++ wsX20 ++ wsX00 ++ wsX10)
def wsX2_reach_r1 : List Cond := [Cond.fieldLink RX2 10 "RingSeesaw" "ring" "LRingSeesaw$Ring;", Cond.fieldLink RX2 24 "RingSeesaw" "tipsDone" "I", Cond.methodLink RX2 85 yX2_keptRing, Cond.instanceMethod yX2_keptRing, Cond.selects RX2 yX2_keptRing yX2_keptRing, Cond.initialized RX2, Cond.code yX2_keptRing cX2_keptRing 3 (some (.object "RingSeesaw$Ring")), Cond.classLink RX2 221 "java/lang/IndexOutOfBoundsException", Cond.initialized "java/lang/IndexOutOfBoundsException", Cond.fieldLink RX2 20 "RingSeesaw" "keptCount" "I", Cond.fieldLink RX2 16 "RingSeesaw" "kept" "[LRingSeesaw$Ring;", Cond.methodLink RX2 98 yX2_requireWayTo, Cond.instanceMethod yX2_requireWayTo, Cond.selects RX2 yX2_requireWayTo yX2_requireWayTo, Cond.code yX2_requireWayTo cX2_requireWayTo 2 none, Cond.classLink RX2 80 "java/lang/IllegalStateException", Cond.initialized "java/lang/IllegalStateException", Cond.methodLink RX2 130 yX0_canBecome, Cond.instanceMethod yX0_canBecome, Cond.selects RX0 yX0_canBecome yX0_canBecome, Cond.initialized RX0, Cond.code yX0_canBecome cX0_canBecome 2 (some .boolean), Cond.methodLink RX0 56 yX0_total, Cond.instanceMethod yX0_total]
def wsX2_reach_r2 : List Cond := [Cond.selects RX0 yX0_total yX0_total, Cond.code yX0_total cX0_total 3 (some .int), Cond.fieldLink RX0 15 "RingSeesaw$Ring" "size" "I", Cond.methodLink RX0 23 yX0_at, Cond.instanceMethod yX0_at, Cond.selects RX0 yX0_at yX0_at, Cond.code yX0_at cX0_at 2 (some .int), Cond.fieldLink RX0 9 "RingSeesaw$Ring" "numbers" "[I", Cond.methodLink RX0 59 yX0_momentLeft, Cond.instanceMethod yX0_momentLeft, Cond.selects RX0 yX0_momentLeft yX0_momentLeft, Cond.code yX0_momentLeft cX0_momentLeft 3 (some .int), Cond.methodLink RX0 40 yJ9_floorMod_7cf53, Cond.static yJ9_floorMod_7cf53, Cond.initialized RJ9, Cond.code yJ9_floorMod_7cf53 cJ9_floorMod_7cf53 3 (some .int), Cond.methodLink RX2 101 yX2_fewestTo, Cond.instanceMethod yX2_fewestTo, Cond.selects RX2 yX2_fewestTo yX2_fewestTo, Cond.code yX2_fewestTo cX2_fewestTo 2 (some .int), Cond.fieldLink RX2 33 "RingSeesaw" "way" "LRingSeesaw$Way;", Cond.methodLink RX2 134 yX1_find, Cond.instanceMethod yX1_find, Cond.selects RX1 yX1_find yX1_find]
def wsX2_reach_r3 : List Cond := [Cond.initialized RX1, Cond.code yX1_find cX1_find 6 none, Cond.fieldLink RX1 15 "RingSeesaw$Way" "size" "I", Cond.fieldLink RX1 9 "RingSeesaw$Way" "tips" "[I", Cond.methodLink RX1 19 yX0_size, Cond.instanceMethod yX0_size, Cond.selects RX0 yX0_size yX0_size, Cond.code yX0_size cX0_size 1 (some .int), Cond.methodLink RX1 24 yX1_firstClimb, Cond.instanceMethod yX1_firstClimb, Cond.selects RX1 yX1_firstClimb yX1_firstClimb, Cond.code yX1_firstClimb cX1_firstClimb 5 (some .int), Cond.methodLink RX1 28 yX0_at, Cond.methodLink RX2 234 yX1_fewest, Cond.instanceMethod yX1_fewest, Cond.selects RX1 yX1_fewest yX1_fewest, Cond.code yX1_fewest cX1_fewest 3 (some .int), Cond.methodLink RX1 38 Lib.Math.min.name, Cond.static Lib.Math.min.name, Cond.initialized "java/lang/Math", Cond.code Lib.Math.min.name Lib.Math.min.code 2 (some .int), Cond.methodLink RX1 32 yX1_tipsAt, Cond.instanceMethod yX1_tipsAt, Cond.selects RX1 yX1_tipsAt yX1_tipsAt]
def wsX2_reach_r4 : List Cond := [Cond.code yX1_tipsAt cX1_tipsAt 2 (some .int), Cond.methodLink RX1 35 yX1_awayFrom, Cond.instanceMethod yX1_awayFrom, Cond.selects RX1 yX1_awayFrom yX1_awayFrom, Cond.code yX1_awayFrom cX1_awayFrom 4 (some .int), Cond.methodLink RX1 44 Lib.Math.abs.name, Cond.static Lib.Math.abs.name, Cond.code Lib.Math.abs.name Lib.Math.abs.code 1 (some .int), Cond.methodLink RX2 89 yX0_copyFrom, Cond.instanceMethod yX0_copyFrom, Cond.selects RX0 yX0_copyFrom yX0_copyFrom, Cond.code yX0_copyFrom cX0_copyFrom 3 none, Cond.methodLink RX0 19 yX0_write, Cond.instanceMethod yX0_write, Cond.selects RX0 yX0_write yX0_write, Cond.code yX0_write cX0_write 3 none]
def wsX2_reach : List Cond := .code yX2_reach cX2_reach 4 (some .int) :: ((wsX2_reach_r1 ++ (wsX2_reach_r2 ++ (wsX2_reach_r3 ++ wsX2_reach_r4))) ++ wsX20 ++ wsX00 ++ wsX10 ++ (vx_atS RX2 225 "java/lang/IndexOutOfBoundsException" ["java/lang/RuntimeException", "java/lang/Exception"]).filter goodWord ++ (vx_atS RX2 84 "java/lang/IllegalStateException" ["java/lang/RuntimeException", "java/lang/Exception"]).filter goodWord)
def wsX2_places : List Cond := .code yX2_places cX2_places 1 (some .int) :: ([.fieldLink RX2 10 "RingSeesaw" "ring" "LRingSeesaw$Ring;", .methodLink RX2 44 yX0_size, .instanceMethod yX0_size, .selects RX0 yX0_size yX0_size, .initialized RX0, .code yX0_size cX0_size 1 (some .int), .fieldLink RX0 15 "RingSeesaw$Ring" "size" "I"] ++ wsX20 ++ wsX00)
def wsX2_numberAt : List Cond := .code yX2_numberAt cX2_numberAt 2 (some .int) :: ([.fieldLink RX2 10 "RingSeesaw" "ring" "LRingSeesaw$Ring;", .methodLink RX2 52 yX2_requirePlace, .instanceMethod yX2_requirePlace, .selects RX2 yX2_requirePlace yX2_requirePlace, .initialized RX2, .code yX2_requirePlace cX2_requirePlace 2 none, .classLink RX2 221 "java/lang/IndexOutOfBoundsException", .initialized "java/lang/IndexOutOfBoundsException", .methodLink RX2 44 yX0_size, .instanceMethod yX0_size, .selects RX0 yX0_size yX0_size, .initialized RX0, .code yX0_size cX0_size 1 (some .int), .fieldLink RX0 15 "RingSeesaw$Ring" "size" "I", .methodLink RX2 58 yX0_at, .instanceMethod yX0_at, .selects RX0 yX0_at yX0_at, .code yX0_at cX0_at 2 (some .int), .fieldLink RX0 9 "RingSeesaw$Ring" "numbers" "[I"] ++ wsX20 ++ wsX00 ++ (vx_atS RX2 225 "java/lang/IndexOutOfBoundsException" ["java/lang/RuntimeException", "java/lang/Exception"]).filter goodWord)
def wsX2_targets : List Cond := .code yX2_targets cX2_targets 1 (some .int) :: ([.fieldLink RX2 20 "RingSeesaw" "keptCount" "I"] ++ wsX20)
def wsX2_tips : List Cond := .code yX2_tips cX2_tips 1 (some .int) :: ([.fieldLink RX2 24 "RingSeesaw" "tipsDone" "I"] ++ wsX20)
def wsX2_sum : List Cond := .code yX2_sum cX2_sum 1 (some .int) :: ([.fieldLink RX2 10 "RingSeesaw" "ring" "LRingSeesaw$Ring;", .methodLink RX2 105 yX0_total, .instanceMethod yX0_total, .selects RX0 yX0_total yX0_total, .initialized RX0, .code yX0_total cX0_total 3 (some .int), .fieldLink RX0 15 "RingSeesaw$Ring" "size" "I", .methodLink RX0 23 yX0_at, .instanceMethod yX0_at, .selects RX0 yX0_at yX0_at, .code yX0_at cX0_at 2 (some .int), .fieldLink RX0 9 "RingSeesaw$Ring" "numbers" "[I"] ++ wsX20 ++ wsX00)
def wsX2_moment : List Cond := .code yX2_moment cX2_moment 1 (some .int) :: ([.fieldLink RX2 10 "RingSeesaw" "ring" "LRingSeesaw$Ring;", .methodLink RX2 108 yX0_momentLeft, .instanceMethod yX0_momentLeft, .selects RX0 yX0_momentLeft yX0_momentLeft, .initialized RX0, .code yX0_momentLeft cX0_momentLeft 3 (some .int), .fieldLink RX0 15 "RingSeesaw$Ring" "size" "I", .methodLink RX0 23 yX0_at, .instanceMethod yX0_at, .selects RX0 yX0_at yX0_at, .code yX0_at cX0_at 2 (some .int), .fieldLink RX0 9 "RingSeesaw$Ring" "numbers" "[I", .methodLink RX0 40 yJ9_floorMod_7cf53, .static yJ9_floorMod_7cf53, .initialized RJ9, .code yJ9_floorMod_7cf53 cJ9_floorMod_7cf53 3 (some .int)] ++ wsX20 ++ wsX00)
def wsX2_spread : List Cond := .code yX2_spread cX2_spread 1 (some .int) :: ([.fieldLink RX2 10 "RingSeesaw" "ring" "LRingSeesaw$Ring;", .methodLink RX2 111 yX0_span, .instanceMethod yX0_span, .selects RX0 yX0_span yX0_span, .initialized RX0, .code yX0_span cX0_span 3 (some .int), .fieldLink RX0 15 "RingSeesaw$Ring" "size" "I", .methodLink RX0 46 Lib.Math.min.name, .static Lib.Math.min.name, .initialized "java/lang/Math", .code Lib.Math.min.name Lib.Math.min.code 2 (some .int), .methodLink RX0 23 yX0_at, .instanceMethod yX0_at, .selects RX0 yX0_at yX0_at, .code yX0_at cX0_at 2 (some .int), .fieldLink RX0 9 "RingSeesaw$Ring" "numbers" "[I", .methodLink RX0 49 yX0_firstGreatest, .instanceMethod yX0_firstGreatest, .selects RX0 yX0_firstGreatest yX0_firstGreatest, .code yX0_firstGreatest cX0_firstGreatest 3 (some .int)] ++ wsX20 ++ wsX00)
def wsX2_highest : List Cond := .code yX2_highest cX2_highest 1 (some .int) :: ([.fieldLink RX2 10 "RingSeesaw" "ring" "LRingSeesaw$Ring;", .methodLink RX2 114 yX0_firstGreatest, .instanceMethod yX0_firstGreatest, .selects RX0 yX0_firstGreatest yX0_firstGreatest, .initialized RX0, .code yX0_firstGreatest cX0_firstGreatest 3 (some .int), .fieldLink RX0 15 "RingSeesaw$Ring" "size" "I", .methodLink RX0 23 yX0_at, .instanceMethod yX0_at, .selects RX0 yX0_at yX0_at, .code yX0_at cX0_at 2 (some .int), .fieldLink RX0 9 "RingSeesaw$Ring" "numbers" "[I"] ++ wsX20 ++ wsX00)
def wsX2_isSteep_r1 : List Cond := [Cond.fieldLink RX2 10 "RingSeesaw" "ring" "LRingSeesaw$Ring;", Cond.methodLink RX2 52 yX2_requirePlace, Cond.instanceMethod yX2_requirePlace, Cond.selects RX2 yX2_requirePlace yX2_requirePlace, Cond.initialized RX2, Cond.code yX2_requirePlace cX2_requirePlace 2 none, Cond.classLink RX2 221 "java/lang/IndexOutOfBoundsException", Cond.initialized "java/lang/IndexOutOfBoundsException", Cond.methodLink RX2 44 yX0_size, Cond.instanceMethod yX0_size, Cond.selects RX0 yX0_size yX0_size, Cond.initialized RX0, Cond.code yX0_size cX0_size 1 (some .int), Cond.fieldLink RX0 15 "RingSeesaw$Ring" "size" "I", Cond.methodLink RX2 117 yX0_steepAt, Cond.instanceMethod yX0_steepAt, Cond.selects RX0 yX0_steepAt yX0_steepAt, Cond.code yX0_steepAt cX0_steepAt 2 (some .boolean), Cond.methodLink RX0 23 yX0_at, Cond.instanceMethod yX0_at, Cond.selects RX0 yX0_at yX0_at, Cond.code yX0_at cX0_at 2 (some .int), Cond.fieldLink RX0 9 "RingSeesaw$Ring" "numbers" "[I", Cond.methodLink RX0 30 yX0_onRing]
def wsX2_isSteep_r2 : List Cond := [Cond.instanceMethod yX0_onRing, Cond.selects RX0 yX0_onRing yX0_onRing, Cond.code yX0_onRing cX0_onRing 2 (some .int)]
def wsX2_isSteep : List Cond := .code yX2_isSteep cX2_isSteep 2 (some .boolean) :: ((wsX2_isSteep_r1 ++ wsX2_isSteep_r2) ++ wsX20 ++ wsX00 ++ (vx_atS RX2 225 "java/lang/IndexOutOfBoundsException" ["java/lang/RuntimeException", "java/lang/Exception"]).filter goodWord)
def wsX2_steepPlaces : List Cond := .code yX2_steepPlaces cX2_steepPlaces 3 (some .int) :: ([.fieldLink RX2 10 "RingSeesaw" "ring" "LRingSeesaw$Ring;", .methodLink RX2 44 yX0_size, .instanceMethod yX0_size, .selects RX0 yX0_size yX0_size, .initialized RX0, .code yX0_size cX0_size 1 (some .int), .fieldLink RX0 15 "RingSeesaw$Ring" "size" "I", .methodLink RX2 117 yX0_steepAt, .instanceMethod yX0_steepAt, .selects RX0 yX0_steepAt yX0_steepAt, .code yX0_steepAt cX0_steepAt 2 (some .boolean), .methodLink RX0 23 yX0_at, .instanceMethod yX0_at, .selects RX0 yX0_at yX0_at, .code yX0_at cX0_at 2 (some .int), .fieldLink RX0 9 "RingSeesaw$Ring" "numbers" "[I", .methodLink RX0 30 yX0_onRing, .instanceMethod yX0_onRing, .selects RX0 yX0_onRing yX0_onRing, .code yX0_onRing cX0_onRing 2 (some .int)] ++ wsX20 ++ wsX00)
def wsX2_nextToTip : List Cond := .code yX2_nextToTip cX2_nextToTip 1 (some .int) :: ([.fieldLink RX2 10 "RingSeesaw" "ring" "LRingSeesaw$Ring;", .methodLink RX2 121 yX0_firstSteep, .instanceMethod yX0_firstSteep, .selects RX0 yX0_firstSteep yX0_firstSteep, .initialized RX0, .code yX0_firstSteep cX0_firstSteep 2 (some .int), .fieldLink RX0 15 "RingSeesaw$Ring" "size" "I", .methodLink RX0 52 yX0_steepAt, .instanceMethod yX0_steepAt, .selects RX0 yX0_steepAt yX0_steepAt, .code yX0_steepAt cX0_steepAt 2 (some .boolean), .methodLink RX0 23 yX0_at, .instanceMethod yX0_at, .selects RX0 yX0_at yX0_at, .code yX0_at cX0_at 2 (some .int), .fieldLink RX0 9 "RingSeesaw$Ring" "numbers" "[I", .methodLink RX0 30 yX0_onRing, .instanceMethod yX0_onRing, .selects RX0 yX0_onRing yX0_onRing, .code yX0_onRing cX0_onRing 2 (some .int)] ++ wsX20 ++ wsX00)
def wsX2_tilt_r1 : List Cond := [Cond.fieldLink RX2 10 "RingSeesaw" "ring" "LRingSeesaw$Ring;", Cond.methodLink RX2 52 yX2_requirePlace, Cond.instanceMethod yX2_requirePlace, Cond.selects RX2 yX2_requirePlace yX2_requirePlace, Cond.initialized RX2, Cond.code yX2_requirePlace cX2_requirePlace 2 none, Cond.classLink RX2 221 "java/lang/IndexOutOfBoundsException", Cond.initialized "java/lang/IndexOutOfBoundsException", Cond.methodLink RX2 44 yX0_size, Cond.instanceMethod yX0_size, Cond.selects RX0 yX0_size yX0_size, Cond.initialized RX0, Cond.code yX0_size cX0_size 1 (some .int), Cond.fieldLink RX0 15 "RingSeesaw$Ring" "size" "I", Cond.methodLink RX2 124 yX0_tiltOn, Cond.instanceMethod yX0_tiltOn, Cond.selects RX0 yX0_tiltOn yX0_tiltOn, Cond.code yX0_tiltOn cX0_tiltOn 4 (some .int), Cond.methodLink RX0 30 yX0_onRing, Cond.instanceMethod yX0_onRing, Cond.selects RX0 yX0_onRing yX0_onRing, Cond.code yX0_onRing cX0_onRing 2 (some .int), Cond.methodLink RX0 23 yX0_at, Cond.instanceMethod yX0_at]
def wsX2_tilt_r2 : List Cond := [Cond.selects RX0 yX0_at yX0_at, Cond.code yX0_at cX0_at 2 (some .int), Cond.fieldLink RX0 9 "RingSeesaw$Ring" "numbers" "[I"]
def wsX2_tilt : List Cond := .code yX2_tilt cX2_tilt 2 (some .int) :: ((wsX2_tilt_r1 ++ wsX2_tilt_r2) ++ wsX20 ++ wsX00 ++ (vx_atS RX2 225 "java/lang/IndexOutOfBoundsException" ["java/lang/RuntimeException", "java/lang/Exception"]).filter goodWord)
def wsX2_levelAxes : List Cond := .code yX2_levelAxes cX2_levelAxes 3 (some .int) :: ([.fieldLink RX2 10 "RingSeesaw" "ring" "LRingSeesaw$Ring;", .methodLink RX2 44 yX0_size, .instanceMethod yX0_size, .selects RX0 yX0_size yX0_size, .initialized RX0, .code yX0_size cX0_size 1 (some .int), .fieldLink RX0 15 "RingSeesaw$Ring" "size" "I", .methodLink RX2 124 yX0_tiltOn, .instanceMethod yX0_tiltOn, .selects RX0 yX0_tiltOn yX0_tiltOn, .code yX0_tiltOn cX0_tiltOn 4 (some .int), .methodLink RX0 30 yX0_onRing, .instanceMethod yX0_onRing, .selects RX0 yX0_onRing yX0_onRing, .code yX0_onRing cX0_onRing 2 (some .int), .methodLink RX0 23 yX0_at, .instanceMethod yX0_at, .selects RX0 yX0_at yX0_at, .code yX0_at cX0_at 2 (some .int), .fieldLink RX0 9 "RingSeesaw$Ring" "numbers" "[I"] ++ wsX20 ++ wsX00)
def wsX2_bestAxis : List Cond := .code yX2_bestAxis cX2_bestAxis 3 (some .int) :: ([.fieldLink RX2 10 "RingSeesaw" "ring" "LRingSeesaw$Ring;", .methodLink RX2 72 Lib.Math.abs.name, .static Lib.Math.abs.name, .initialized "java/lang/Math", .code Lib.Math.abs.name Lib.Math.abs.code 1 (some .int), .methodLink RX2 44 yX0_size, .instanceMethod yX0_size, .selects RX0 yX0_size yX0_size, .initialized RX0, .code yX0_size cX0_size 1 (some .int), .fieldLink RX0 15 "RingSeesaw$Ring" "size" "I", .methodLink RX2 124 yX0_tiltOn, .instanceMethod yX0_tiltOn, .selects RX0 yX0_tiltOn yX0_tiltOn, .code yX0_tiltOn cX0_tiltOn 4 (some .int), .methodLink RX0 30 yX0_onRing, .instanceMethod yX0_onRing, .selects RX0 yX0_onRing yX0_onRing, .code yX0_onRing cX0_onRing 2 (some .int), .methodLink RX0 23 yX0_at, .instanceMethod yX0_at, .selects RX0 yX0_at yX0_at, .code yX0_at cX0_at 2 (some .int), .fieldLink RX0 9 "RingSeesaw$Ring" "numbers" "[I"] ++ wsX20 ++ wsX00)
def wsX2_numberIn_r1 : List Cond := [Cond.methodLink RX2 85 yX2_keptRing, Cond.instanceMethod yX2_keptRing, Cond.selects RX2 yX2_keptRing yX2_keptRing, Cond.initialized RX2, Cond.code yX2_keptRing cX2_keptRing 3 (some (.object "RingSeesaw$Ring")), Cond.classLink RX2 221 "java/lang/IndexOutOfBoundsException", Cond.initialized "java/lang/IndexOutOfBoundsException", Cond.fieldLink RX2 20 "RingSeesaw" "keptCount" "I", Cond.fieldLink RX2 16 "RingSeesaw" "kept" "[LRingSeesaw$Ring;", Cond.methodLink RX2 52 yX2_requirePlace, Cond.instanceMethod yX2_requirePlace, Cond.selects RX2 yX2_requirePlace yX2_requirePlace, Cond.code yX2_requirePlace cX2_requirePlace 2 none, Cond.fieldLink RX2 10 "RingSeesaw" "ring" "LRingSeesaw$Ring;", Cond.methodLink RX2 44 yX0_size, Cond.instanceMethod yX0_size, Cond.selects RX0 yX0_size yX0_size, Cond.initialized RX0, Cond.code yX0_size cX0_size 1 (some .int), Cond.fieldLink RX0 15 "RingSeesaw$Ring" "size" "I", Cond.methodLink RX2 58 yX0_at, Cond.instanceMethod yX0_at, Cond.selects RX0 yX0_at yX0_at, Cond.code yX0_at cX0_at 2 (some .int)]
def wsX2_numberIn_r2 : List Cond := [Cond.fieldLink RX0 9 "RingSeesaw$Ring" "numbers" "[I"]
def wsX2_numberIn : List Cond := .code yX2_numberIn cX2_numberIn 4 (some .int) :: ((wsX2_numberIn_r1 ++ wsX2_numberIn_r2) ++ wsX20 ++ wsX00 ++ (vx_atS RX2 225 "java/lang/IndexOutOfBoundsException" ["java/lang/RuntimeException", "java/lang/Exception"]).filter goodWord)
def wsX2_differences : List Cond := .code yX2_differences cX2_differences 2 (some .int) :: ([.fieldLink RX2 10 "RingSeesaw" "ring" "LRingSeesaw$Ring;", .methodLink RX2 85 yX2_keptRing, .instanceMethod yX2_keptRing, .selects RX2 yX2_keptRing yX2_keptRing, .initialized RX2, .code yX2_keptRing cX2_keptRing 3 (some (.object "RingSeesaw$Ring")), .classLink RX2 221 "java/lang/IndexOutOfBoundsException", .initialized "java/lang/IndexOutOfBoundsException", .fieldLink RX2 20 "RingSeesaw" "keptCount" "I", .fieldLink RX2 16 "RingSeesaw" "kept" "[LRingSeesaw$Ring;", .methodLink RX2 127 yX0_differencesFrom, .instanceMethod yX0_differencesFrom, .selects RX0 yX0_differencesFrom yX0_differencesFrom, .initialized RX0, .code yX0_differencesFrom cX0_differencesFrom 4 (some .int), .fieldLink RX0 15 "RingSeesaw$Ring" "size" "I", .methodLink RX0 23 yX0_at, .instanceMethod yX0_at, .selects RX0 yX0_at yX0_at, .code yX0_at cX0_at 2 (some .int), .fieldLink RX0 9 "RingSeesaw$Ring" "numbers" "[I"] ++ wsX20 ++ wsX00 ++ (vx_atS RX2 225 "java/lang/IndexOutOfBoundsException" ["java/lang/RuntimeException", "java/lang/Exception"]).filter goodWord)
def wsX2_canReach_r1 : List Cond := [Cond.fieldLink RX2 10 "RingSeesaw" "ring" "LRingSeesaw$Ring;", Cond.methodLink RX2 85 yX2_keptRing, Cond.instanceMethod yX2_keptRing, Cond.selects RX2 yX2_keptRing yX2_keptRing, Cond.initialized RX2, Cond.code yX2_keptRing cX2_keptRing 3 (some (.object "RingSeesaw$Ring")), Cond.classLink RX2 221 "java/lang/IndexOutOfBoundsException", Cond.initialized "java/lang/IndexOutOfBoundsException", Cond.fieldLink RX2 20 "RingSeesaw" "keptCount" "I", Cond.fieldLink RX2 16 "RingSeesaw" "kept" "[LRingSeesaw$Ring;", Cond.methodLink RX2 130 yX0_canBecome, Cond.instanceMethod yX0_canBecome, Cond.selects RX0 yX0_canBecome yX0_canBecome, Cond.initialized RX0, Cond.code yX0_canBecome cX0_canBecome 2 (some .boolean), Cond.methodLink RX0 56 yX0_total, Cond.instanceMethod yX0_total, Cond.selects RX0 yX0_total yX0_total, Cond.code yX0_total cX0_total 3 (some .int), Cond.fieldLink RX0 15 "RingSeesaw$Ring" "size" "I", Cond.methodLink RX0 23 yX0_at, Cond.instanceMethod yX0_at, Cond.selects RX0 yX0_at yX0_at, Cond.code yX0_at cX0_at 2 (some .int)]
def wsX2_canReach_r2 : List Cond := [Cond.fieldLink RX0 9 "RingSeesaw$Ring" "numbers" "[I", Cond.methodLink RX0 59 yX0_momentLeft, Cond.instanceMethod yX0_momentLeft, Cond.selects RX0 yX0_momentLeft yX0_momentLeft, Cond.code yX0_momentLeft cX0_momentLeft 3 (some .int), Cond.methodLink RX0 40 yJ9_floorMod_7cf53, Cond.static yJ9_floorMod_7cf53, Cond.initialized RJ9, Cond.code yJ9_floorMod_7cf53 cJ9_floorMod_7cf53 3 (some .int)]
def wsX2_canReach : List Cond := .code yX2_canReach cX2_canReach 2 (some .boolean) :: ((wsX2_canReach_r1 ++ wsX2_canReach_r2) ++ wsX20 ++ wsX00 ++ (vx_atS RX2 225 "java/lang/IndexOutOfBoundsException" ["java/lang/RuntimeException", "java/lang/Exception"]).filter goodWord)
def wsX2_reachable_r1 : List Cond := [Cond.fieldLink RX2 20 "RingSeesaw" "keptCount" "I", Cond.fieldLink RX2 10 "RingSeesaw" "ring" "LRingSeesaw$Ring;", Cond.methodLink RX2 85 yX2_keptRing, Cond.instanceMethod yX2_keptRing, Cond.selects RX2 yX2_keptRing yX2_keptRing, Cond.initialized RX2, Cond.code yX2_keptRing cX2_keptRing 3 (some (.object "RingSeesaw$Ring")), Cond.classLink RX2 221 "java/lang/IndexOutOfBoundsException", Cond.initialized "java/lang/IndexOutOfBoundsException", Cond.fieldLink RX2 16 "RingSeesaw" "kept" "[LRingSeesaw$Ring;", Cond.methodLink RX2 130 yX0_canBecome, Cond.instanceMethod yX0_canBecome, Cond.selects RX0 yX0_canBecome yX0_canBecome, Cond.initialized RX0, Cond.code yX0_canBecome cX0_canBecome 2 (some .boolean), Cond.methodLink RX0 56 yX0_total, Cond.instanceMethod yX0_total, Cond.selects RX0 yX0_total yX0_total, Cond.code yX0_total cX0_total 3 (some .int), Cond.fieldLink RX0 15 "RingSeesaw$Ring" "size" "I", Cond.methodLink RX0 23 yX0_at, Cond.instanceMethod yX0_at, Cond.selects RX0 yX0_at yX0_at, Cond.code yX0_at cX0_at 2 (some .int)]
def wsX2_reachable_r2 : List Cond := [Cond.fieldLink RX0 9 "RingSeesaw$Ring" "numbers" "[I", Cond.methodLink RX0 59 yX0_momentLeft, Cond.instanceMethod yX0_momentLeft, Cond.selects RX0 yX0_momentLeft yX0_momentLeft, Cond.code yX0_momentLeft cX0_momentLeft 3 (some .int), Cond.methodLink RX0 40 yJ9_floorMod_7cf53, Cond.static yJ9_floorMod_7cf53, Cond.initialized RJ9, Cond.code yJ9_floorMod_7cf53 cJ9_floorMod_7cf53 3 (some .int)]
def wsX2_reachable : List Cond := .code yX2_reachable cX2_reachable 3 (some .int) :: ((wsX2_reachable_r1 ++ wsX2_reachable_r2) ++ wsX20 ++ wsX00 ++ (vx_atS RX2 225 "java/lang/IndexOutOfBoundsException" ["java/lang/RuntimeException", "java/lang/Exception"]).filter goodWord)
def wsX2_tipsTo_r1 : List Cond := [Cond.fieldLink RX2 33 "RingSeesaw" "way" "LRingSeesaw$Way;", Cond.fieldLink RX2 10 "RingSeesaw" "ring" "LRingSeesaw$Ring;", Cond.methodLink RX2 85 yX2_keptRing, Cond.instanceMethod yX2_keptRing, Cond.selects RX2 yX2_keptRing yX2_keptRing, Cond.initialized RX2, Cond.code yX2_keptRing cX2_keptRing 3 (some (.object "RingSeesaw$Ring")), Cond.classLink RX2 221 "java/lang/IndexOutOfBoundsException", Cond.initialized "java/lang/IndexOutOfBoundsException", Cond.fieldLink RX2 20 "RingSeesaw" "keptCount" "I", Cond.fieldLink RX2 16 "RingSeesaw" "kept" "[LRingSeesaw$Ring;", Cond.methodLink RX2 52 yX2_requirePlace, Cond.instanceMethod yX2_requirePlace, Cond.selects RX2 yX2_requirePlace yX2_requirePlace, Cond.code yX2_requirePlace cX2_requirePlace 2 none, Cond.methodLink RX2 44 yX0_size, Cond.instanceMethod yX0_size, Cond.selects RX0 yX0_size yX0_size, Cond.initialized RX0, Cond.code yX0_size cX0_size 1 (some .int), Cond.fieldLink RX0 15 "RingSeesaw$Ring" "size" "I", Cond.methodLink RX2 98 yX2_requireWayTo, Cond.instanceMethod yX2_requireWayTo, Cond.selects RX2 yX2_requireWayTo yX2_requireWayTo]
def wsX2_tipsTo_r2 : List Cond := [Cond.code yX2_requireWayTo cX2_requireWayTo 2 none, Cond.classLink RX2 80 "java/lang/IllegalStateException", Cond.initialized "java/lang/IllegalStateException", Cond.methodLink RX2 130 yX0_canBecome, Cond.instanceMethod yX0_canBecome, Cond.selects RX0 yX0_canBecome yX0_canBecome, Cond.code yX0_canBecome cX0_canBecome 2 (some .boolean), Cond.methodLink RX0 56 yX0_total, Cond.instanceMethod yX0_total, Cond.selects RX0 yX0_total yX0_total, Cond.code yX0_total cX0_total 3 (some .int), Cond.methodLink RX0 23 yX0_at, Cond.instanceMethod yX0_at, Cond.selects RX0 yX0_at yX0_at, Cond.code yX0_at cX0_at 2 (some .int), Cond.fieldLink RX0 9 "RingSeesaw$Ring" "numbers" "[I", Cond.methodLink RX0 59 yX0_momentLeft, Cond.instanceMethod yX0_momentLeft, Cond.selects RX0 yX0_momentLeft yX0_momentLeft, Cond.code yX0_momentLeft cX0_momentLeft 3 (some .int), Cond.methodLink RX0 40 yJ9_floorMod_7cf53, Cond.static yJ9_floorMod_7cf53, Cond.initialized RJ9, Cond.code yJ9_floorMod_7cf53 cJ9_floorMod_7cf53 3 (some .int)]
def wsX2_tipsTo_r3 : List Cond := [Cond.methodLink RX2 134 yX1_find, Cond.instanceMethod yX1_find, Cond.selects RX1 yX1_find yX1_find, Cond.initialized RX1, Cond.code yX1_find cX1_find 6 none, Cond.fieldLink RX1 15 "RingSeesaw$Way" "size" "I", Cond.fieldLink RX1 9 "RingSeesaw$Way" "tips" "[I", Cond.methodLink RX1 19 yX0_size, Cond.methodLink RX1 24 yX1_firstClimb, Cond.instanceMethod yX1_firstClimb, Cond.selects RX1 yX1_firstClimb yX1_firstClimb, Cond.code yX1_firstClimb cX1_firstClimb 5 (some .int), Cond.methodLink RX1 28 yX0_at, Cond.methodLink RX2 138 yX1_tipsAt, Cond.instanceMethod yX1_tipsAt, Cond.selects RX1 yX1_tipsAt yX1_tipsAt, Cond.code yX1_tipsAt cX1_tipsAt 2 (some .int)]
def wsX2_tipsTo : List Cond := .code yX2_tipsTo cX2_tipsTo 4 (some .int) :: ((wsX2_tipsTo_r1 ++ (wsX2_tipsTo_r2 ++ wsX2_tipsTo_r3)) ++ wsX20 ++ wsX00 ++ wsX10 ++ (vx_atS RX2 225 "java/lang/IndexOutOfBoundsException" ["java/lang/RuntimeException", "java/lang/Exception"]).filter goodWord ++ (vx_atS RX2 84 "java/lang/IllegalStateException" ["java/lang/RuntimeException", "java/lang/Exception"]).filter goodWord)
def wsX2_fewestTips_r1 : List Cond := [Cond.methodLink RX2 85 yX2_keptRing, Cond.instanceMethod yX2_keptRing, Cond.selects RX2 yX2_keptRing yX2_keptRing, Cond.initialized RX2, Cond.code yX2_keptRing cX2_keptRing 3 (some (.object "RingSeesaw$Ring")), Cond.classLink RX2 221 "java/lang/IndexOutOfBoundsException", Cond.initialized "java/lang/IndexOutOfBoundsException", Cond.fieldLink RX2 20 "RingSeesaw" "keptCount" "I", Cond.fieldLink RX2 16 "RingSeesaw" "kept" "[LRingSeesaw$Ring;", Cond.methodLink RX2 101 yX2_fewestTo, Cond.instanceMethod yX2_fewestTo, Cond.selects RX2 yX2_fewestTo yX2_fewestTo, Cond.code yX2_fewestTo cX2_fewestTo 2 (some .int), Cond.fieldLink RX2 10 "RingSeesaw" "ring" "LRingSeesaw$Ring;", Cond.fieldLink RX2 33 "RingSeesaw" "way" "LRingSeesaw$Way;", Cond.methodLink RX2 130 yX0_canBecome, Cond.instanceMethod yX0_canBecome, Cond.selects RX0 yX0_canBecome yX0_canBecome, Cond.initialized RX0, Cond.code yX0_canBecome cX0_canBecome 2 (some .boolean), Cond.methodLink RX0 56 yX0_total, Cond.instanceMethod yX0_total, Cond.selects RX0 yX0_total yX0_total, Cond.code yX0_total cX0_total 3 (some .int)]
def wsX2_fewestTips_r2 : List Cond := [Cond.fieldLink RX0 15 "RingSeesaw$Ring" "size" "I", Cond.methodLink RX0 23 yX0_at, Cond.instanceMethod yX0_at, Cond.selects RX0 yX0_at yX0_at, Cond.code yX0_at cX0_at 2 (some .int), Cond.fieldLink RX0 9 "RingSeesaw$Ring" "numbers" "[I", Cond.methodLink RX0 59 yX0_momentLeft, Cond.instanceMethod yX0_momentLeft, Cond.selects RX0 yX0_momentLeft yX0_momentLeft, Cond.code yX0_momentLeft cX0_momentLeft 3 (some .int), Cond.methodLink RX0 40 yJ9_floorMod_7cf53, Cond.static yJ9_floorMod_7cf53, Cond.initialized RJ9, Cond.code yJ9_floorMod_7cf53 cJ9_floorMod_7cf53 3 (some .int), Cond.methodLink RX2 134 yX1_find, Cond.instanceMethod yX1_find, Cond.selects RX1 yX1_find yX1_find, Cond.initialized RX1, Cond.code yX1_find cX1_find 6 none, Cond.fieldLink RX1 15 "RingSeesaw$Way" "size" "I", Cond.fieldLink RX1 9 "RingSeesaw$Way" "tips" "[I", Cond.methodLink RX1 19 yX0_size, Cond.instanceMethod yX0_size, Cond.selects RX0 yX0_size yX0_size]
def wsX2_fewestTips_r3 : List Cond := [Cond.code yX0_size cX0_size 1 (some .int), Cond.methodLink RX1 24 yX1_firstClimb, Cond.instanceMethod yX1_firstClimb, Cond.selects RX1 yX1_firstClimb yX1_firstClimb, Cond.code yX1_firstClimb cX1_firstClimb 5 (some .int), Cond.methodLink RX1 28 yX0_at, Cond.methodLink RX2 234 yX1_fewest, Cond.instanceMethod yX1_fewest, Cond.selects RX1 yX1_fewest yX1_fewest, Cond.code yX1_fewest cX1_fewest 3 (some .int), Cond.methodLink RX1 38 Lib.Math.min.name, Cond.static Lib.Math.min.name, Cond.initialized "java/lang/Math", Cond.code Lib.Math.min.name Lib.Math.min.code 2 (some .int), Cond.methodLink RX1 32 yX1_tipsAt, Cond.instanceMethod yX1_tipsAt, Cond.selects RX1 yX1_tipsAt yX1_tipsAt, Cond.code yX1_tipsAt cX1_tipsAt 2 (some .int), Cond.methodLink RX1 35 yX1_awayFrom, Cond.instanceMethod yX1_awayFrom, Cond.selects RX1 yX1_awayFrom yX1_awayFrom, Cond.code yX1_awayFrom cX1_awayFrom 4 (some .int), Cond.methodLink RX1 44 Lib.Math.abs.name, Cond.static Lib.Math.abs.name]
def wsX2_fewestTips_r4 : List Cond := [Cond.code Lib.Math.abs.name Lib.Math.abs.code 1 (some .int)]
def wsX2_fewestTips : List Cond := .code yX2_fewestTips cX2_fewestTips 2 (some .int) :: ((wsX2_fewestTips_r1 ++ (wsX2_fewestTips_r2 ++ (wsX2_fewestTips_r3 ++ wsX2_fewestTips_r4))) ++ wsX20 ++ wsX00 ++ wsX10 ++ (vx_atS RX2 225 "java/lang/IndexOutOfBoundsException" ["java/lang/RuntimeException", "java/lang/Exception"]).filter goodWord)
def wsX2_nearestTarget_r1 : List Cond := [Cond.fieldLink RX2 20 "RingSeesaw" "keptCount" "I", Cond.methodLink RX2 85 yX2_keptRing, Cond.instanceMethod yX2_keptRing, Cond.selects RX2 yX2_keptRing yX2_keptRing, Cond.initialized RX2, Cond.code yX2_keptRing cX2_keptRing 3 (some (.object "RingSeesaw$Ring")), Cond.classLink RX2 221 "java/lang/IndexOutOfBoundsException", Cond.initialized "java/lang/IndexOutOfBoundsException", Cond.fieldLink RX2 16 "RingSeesaw" "kept" "[LRingSeesaw$Ring;", Cond.methodLink RX2 101 yX2_fewestTo, Cond.instanceMethod yX2_fewestTo, Cond.selects RX2 yX2_fewestTo yX2_fewestTo, Cond.code yX2_fewestTo cX2_fewestTo 2 (some .int), Cond.fieldLink RX2 10 "RingSeesaw" "ring" "LRingSeesaw$Ring;", Cond.fieldLink RX2 33 "RingSeesaw" "way" "LRingSeesaw$Way;", Cond.methodLink RX2 130 yX0_canBecome, Cond.instanceMethod yX0_canBecome, Cond.selects RX0 yX0_canBecome yX0_canBecome, Cond.initialized RX0, Cond.code yX0_canBecome cX0_canBecome 2 (some .boolean), Cond.methodLink RX0 56 yX0_total, Cond.instanceMethod yX0_total, Cond.selects RX0 yX0_total yX0_total, Cond.code yX0_total cX0_total 3 (some .int)]
def wsX2_nearestTarget_r2 : List Cond := [Cond.fieldLink RX0 15 "RingSeesaw$Ring" "size" "I", Cond.methodLink RX0 23 yX0_at, Cond.instanceMethod yX0_at, Cond.selects RX0 yX0_at yX0_at, Cond.code yX0_at cX0_at 2 (some .int), Cond.fieldLink RX0 9 "RingSeesaw$Ring" "numbers" "[I", Cond.methodLink RX0 59 yX0_momentLeft, Cond.instanceMethod yX0_momentLeft, Cond.selects RX0 yX0_momentLeft yX0_momentLeft, Cond.code yX0_momentLeft cX0_momentLeft 3 (some .int), Cond.methodLink RX0 40 yJ9_floorMod_7cf53, Cond.static yJ9_floorMod_7cf53, Cond.initialized RJ9, Cond.code yJ9_floorMod_7cf53 cJ9_floorMod_7cf53 3 (some .int), Cond.methodLink RX2 134 yX1_find, Cond.instanceMethod yX1_find, Cond.selects RX1 yX1_find yX1_find, Cond.initialized RX1, Cond.code yX1_find cX1_find 6 none, Cond.fieldLink RX1 15 "RingSeesaw$Way" "size" "I", Cond.fieldLink RX1 9 "RingSeesaw$Way" "tips" "[I", Cond.methodLink RX1 19 yX0_size, Cond.instanceMethod yX0_size, Cond.selects RX0 yX0_size yX0_size]
def wsX2_nearestTarget_r3 : List Cond := [Cond.code yX0_size cX0_size 1 (some .int), Cond.methodLink RX1 24 yX1_firstClimb, Cond.instanceMethod yX1_firstClimb, Cond.selects RX1 yX1_firstClimb yX1_firstClimb, Cond.code yX1_firstClimb cX1_firstClimb 5 (some .int), Cond.methodLink RX1 28 yX0_at, Cond.methodLink RX2 234 yX1_fewest, Cond.instanceMethod yX1_fewest, Cond.selects RX1 yX1_fewest yX1_fewest, Cond.code yX1_fewest cX1_fewest 3 (some .int), Cond.methodLink RX1 38 Lib.Math.min.name, Cond.static Lib.Math.min.name, Cond.initialized "java/lang/Math", Cond.code Lib.Math.min.name Lib.Math.min.code 2 (some .int), Cond.methodLink RX1 32 yX1_tipsAt, Cond.instanceMethod yX1_tipsAt, Cond.selects RX1 yX1_tipsAt yX1_tipsAt, Cond.code yX1_tipsAt cX1_tipsAt 2 (some .int), Cond.methodLink RX1 35 yX1_awayFrom, Cond.instanceMethod yX1_awayFrom, Cond.selects RX1 yX1_awayFrom yX1_awayFrom, Cond.code yX1_awayFrom cX1_awayFrom 4 (some .int), Cond.methodLink RX1 44 Lib.Math.abs.name, Cond.static Lib.Math.abs.name]
def wsX2_nearestTarget_r4 : List Cond := [Cond.code Lib.Math.abs.name Lib.Math.abs.code 1 (some .int)]
def wsX2_nearestTarget : List Cond := .code yX2_nearestTarget cX2_nearestTarget 5 (some .int) :: ((wsX2_nearestTarget_r1 ++ (wsX2_nearestTarget_r2 ++ (wsX2_nearestTarget_r3 ++ wsX2_nearestTarget_r4))) ++ wsX20 ++ wsX00 ++ wsX10 ++ (vx_atS RX2 225 "java/lang/IndexOutOfBoundsException" ["java/lang/RuntimeException", "java/lang/Exception"]).filter goodWord)
def wsX2_tryToRest_r1 : List Cond := [Cond.fieldLink RX2 27 "RingSeesaw" "trial" "LRingSeesaw$Ring;", Cond.fieldLink RX2 10 "RingSeesaw" "ring" "LRingSeesaw$Ring;", Cond.methodLink RX2 89 yX0_copyFrom, Cond.instanceMethod yX0_copyFrom, Cond.selects RX0 yX0_copyFrom yX0_copyFrom, Cond.initialized RX0, Cond.code yX0_copyFrom cX0_copyFrom 3 none, Cond.fieldLink RX0 15 "RingSeesaw$Ring" "size" "I", Cond.fieldLink RX0 9 "RingSeesaw$Ring" "numbers" "[I", Cond.methodLink RX0 23 yX0_at, Cond.instanceMethod yX0_at, Cond.selects RX0 yX0_at yX0_at, Cond.code yX0_at cX0_at 2 (some .int), Cond.methodLink RX0 19 yX0_write, Cond.instanceMethod yX0_write, Cond.selects RX0 yX0_write yX0_write, Cond.code yX0_write cX0_write 3 none, Cond.methodLink RX2 95 yX0_settleBy, Cond.instanceMethod yX0_settleBy, Cond.selects RX0 yX0_settleBy yX0_settleBy, Cond.code yX0_settleBy cX0_settleBy 4 (some .int), Cond.methodLink RX0 33 yX0_firstSteep, Cond.instanceMethod yX0_firstSteep, Cond.selects RX0 yX0_firstSteep yX0_firstSteep]
def wsX2_tryToRest_r2 : List Cond := [Cond.code yX0_firstSteep cX0_firstSteep 2 (some .int), Cond.methodLink RX0 52 yX0_steepAt, Cond.instanceMethod yX0_steepAt, Cond.selects RX0 yX0_steepAt yX0_steepAt, Cond.code yX0_steepAt cX0_steepAt 2 (some .boolean), Cond.methodLink RX0 30 yX0_onRing, Cond.instanceMethod yX0_onRing, Cond.selects RX0 yX0_onRing yX0_onRing, Cond.code yX0_onRing cX0_onRing 2 (some .int), Cond.methodLink RX0 37 yX0_tipBy, Cond.instanceMethod yX0_tipBy, Cond.selects RX0 yX0_tipBy yX0_tipBy, Cond.code yX0_tipBy cX0_tipBy 3 none, Cond.methodLink RX0 27 yX0_add, Cond.instanceMethod yX0_add, Cond.selects RX0 yX0_add yX0_add, Cond.code yX0_add cX0_add 3 none, Cond.methodLink RX2 121 yX0_firstSteep]
def wsX2_tryToRest : List Cond := .code yX2_tryToRest cX2_tryToRest 2 (some .int) :: ((wsX2_tryToRest_r1 ++ wsX2_tryToRest_r2) ++ wsX20 ++ wsX00)
def wsX2_stepsToRest_r1 : List Cond := [Cond.methodLink RX2 141 yX2_tryToRest, Cond.instanceMethod yX2_tryToRest, Cond.selects RX2 yX2_tryToRest yX2_tryToRest, Cond.initialized RX2, Cond.code yX2_tryToRest cX2_tryToRest 2 (some .int), Cond.fieldLink RX2 27 "RingSeesaw" "trial" "LRingSeesaw$Ring;", Cond.fieldLink RX2 10 "RingSeesaw" "ring" "LRingSeesaw$Ring;", Cond.methodLink RX2 89 yX0_copyFrom, Cond.instanceMethod yX0_copyFrom, Cond.selects RX0 yX0_copyFrom yX0_copyFrom, Cond.initialized RX0, Cond.code yX0_copyFrom cX0_copyFrom 3 none, Cond.fieldLink RX0 15 "RingSeesaw$Ring" "size" "I", Cond.fieldLink RX0 9 "RingSeesaw$Ring" "numbers" "[I", Cond.methodLink RX0 23 yX0_at, Cond.instanceMethod yX0_at, Cond.selects RX0 yX0_at yX0_at, Cond.code yX0_at cX0_at 2 (some .int), Cond.methodLink RX0 19 yX0_write, Cond.instanceMethod yX0_write, Cond.selects RX0 yX0_write yX0_write, Cond.code yX0_write cX0_write 3 none, Cond.methodLink RX2 95 yX0_settleBy, Cond.instanceMethod yX0_settleBy]
def wsX2_stepsToRest_r2 : List Cond := [Cond.selects RX0 yX0_settleBy yX0_settleBy, Cond.code yX0_settleBy cX0_settleBy 4 (some .int), Cond.methodLink RX0 33 yX0_firstSteep, Cond.instanceMethod yX0_firstSteep, Cond.selects RX0 yX0_firstSteep yX0_firstSteep, Cond.code yX0_firstSteep cX0_firstSteep 2 (some .int), Cond.methodLink RX0 52 yX0_steepAt, Cond.instanceMethod yX0_steepAt, Cond.selects RX0 yX0_steepAt yX0_steepAt, Cond.code yX0_steepAt cX0_steepAt 2 (some .boolean), Cond.methodLink RX0 30 yX0_onRing, Cond.instanceMethod yX0_onRing, Cond.selects RX0 yX0_onRing yX0_onRing, Cond.code yX0_onRing cX0_onRing 2 (some .int), Cond.methodLink RX0 37 yX0_tipBy, Cond.instanceMethod yX0_tipBy, Cond.selects RX0 yX0_tipBy yX0_tipBy, Cond.code yX0_tipBy cX0_tipBy 3 none, Cond.methodLink RX0 27 yX0_add, Cond.instanceMethod yX0_add, Cond.selects RX0 yX0_add yX0_add, Cond.code yX0_add cX0_add 3 none, Cond.methodLink RX2 121 yX0_firstSteep]
def wsX2_stepsToRest : List Cond := .code yX2_stepsToRest cX2_stepsToRest 1 (some .int) :: ((wsX2_stepsToRest_r1 ++ wsX2_stepsToRest_r2) ++ wsX20 ++ wsX00)
def wsX2_spreadAtRest_r1 : List Cond := [Cond.fieldLink RX2 27 "RingSeesaw" "trial" "LRingSeesaw$Ring;", Cond.methodLink RX2 141 yX2_tryToRest, Cond.instanceMethod yX2_tryToRest, Cond.selects RX2 yX2_tryToRest yX2_tryToRest, Cond.initialized RX2, Cond.code yX2_tryToRest cX2_tryToRest 2 (some .int), Cond.fieldLink RX2 10 "RingSeesaw" "ring" "LRingSeesaw$Ring;", Cond.methodLink RX2 89 yX0_copyFrom, Cond.instanceMethod yX0_copyFrom, Cond.selects RX0 yX0_copyFrom yX0_copyFrom, Cond.initialized RX0, Cond.code yX0_copyFrom cX0_copyFrom 3 none, Cond.fieldLink RX0 15 "RingSeesaw$Ring" "size" "I", Cond.fieldLink RX0 9 "RingSeesaw$Ring" "numbers" "[I", Cond.methodLink RX0 23 yX0_at, Cond.instanceMethod yX0_at, Cond.selects RX0 yX0_at yX0_at, Cond.code yX0_at cX0_at 2 (some .int), Cond.methodLink RX0 19 yX0_write, Cond.instanceMethod yX0_write, Cond.selects RX0 yX0_write yX0_write, Cond.code yX0_write cX0_write 3 none, Cond.methodLink RX2 95 yX0_settleBy, Cond.instanceMethod yX0_settleBy]
def wsX2_spreadAtRest_r2 : List Cond := [Cond.selects RX0 yX0_settleBy yX0_settleBy, Cond.code yX0_settleBy cX0_settleBy 4 (some .int), Cond.methodLink RX0 33 yX0_firstSteep, Cond.instanceMethod yX0_firstSteep, Cond.selects RX0 yX0_firstSteep yX0_firstSteep, Cond.code yX0_firstSteep cX0_firstSteep 2 (some .int), Cond.methodLink RX0 52 yX0_steepAt, Cond.instanceMethod yX0_steepAt, Cond.selects RX0 yX0_steepAt yX0_steepAt, Cond.code yX0_steepAt cX0_steepAt 2 (some .boolean), Cond.methodLink RX0 30 yX0_onRing, Cond.instanceMethod yX0_onRing, Cond.selects RX0 yX0_onRing yX0_onRing, Cond.code yX0_onRing cX0_onRing 2 (some .int), Cond.methodLink RX0 37 yX0_tipBy, Cond.instanceMethod yX0_tipBy, Cond.selects RX0 yX0_tipBy yX0_tipBy, Cond.code yX0_tipBy cX0_tipBy 3 none, Cond.methodLink RX0 27 yX0_add, Cond.instanceMethod yX0_add, Cond.selects RX0 yX0_add yX0_add, Cond.code yX0_add cX0_add 3 none, Cond.methodLink RX2 121 yX0_firstSteep, Cond.methodLink RX2 111 yX0_span]
def wsX2_spreadAtRest_r3 : List Cond := [Cond.instanceMethod yX0_span, Cond.selects RX0 yX0_span yX0_span, Cond.code yX0_span cX0_span 3 (some .int), Cond.methodLink RX0 46 Lib.Math.min.name, Cond.static Lib.Math.min.name, Cond.initialized "java/lang/Math", Cond.code Lib.Math.min.name Lib.Math.min.code 2 (some .int), Cond.methodLink RX0 49 yX0_firstGreatest, Cond.instanceMethod yX0_firstGreatest, Cond.selects RX0 yX0_firstGreatest yX0_firstGreatest, Cond.code yX0_firstGreatest cX0_firstGreatest 3 (some .int)]
def wsX2_spreadAtRest : List Cond := .code yX2_spreadAtRest cX2_spreadAtRest 1 (some .int) :: ((wsX2_spreadAtRest_r1 ++ (wsX2_spreadAtRest_r2 ++ wsX2_spreadAtRest_r3)) ++ wsX20 ++ wsX00)
def wsX2_spanAfter_r1 : List Cond := [Cond.fieldLink RX2 27 "RingSeesaw" "trial" "LRingSeesaw$Ring;", Cond.fieldLink RX2 10 "RingSeesaw" "ring" "LRingSeesaw$Ring;", Cond.methodLink RX2 89 yX0_copyFrom, Cond.instanceMethod yX0_copyFrom, Cond.selects RX0 yX0_copyFrom yX0_copyFrom, Cond.initialized RX0, Cond.code yX0_copyFrom cX0_copyFrom 3 none, Cond.fieldLink RX0 15 "RingSeesaw$Ring" "size" "I", Cond.fieldLink RX0 9 "RingSeesaw$Ring" "numbers" "[I", Cond.methodLink RX0 23 yX0_at, Cond.instanceMethod yX0_at, Cond.selects RX0 yX0_at yX0_at, Cond.code yX0_at cX0_at 2 (some .int), Cond.methodLink RX0 19 yX0_write, Cond.instanceMethod yX0_write, Cond.selects RX0 yX0_write yX0_write, Cond.code yX0_write cX0_write 3 none, Cond.methodLink RX2 69 yX0_tipBy, Cond.instanceMethod yX0_tipBy, Cond.selects RX0 yX0_tipBy yX0_tipBy, Cond.code yX0_tipBy cX0_tipBy 3 none, Cond.methodLink RX0 27 yX0_add, Cond.instanceMethod yX0_add, Cond.selects RX0 yX0_add yX0_add]
def wsX2_spanAfter_r2 : List Cond := [Cond.code yX0_add cX0_add 3 none, Cond.methodLink RX0 30 yX0_onRing, Cond.instanceMethod yX0_onRing, Cond.selects RX0 yX0_onRing yX0_onRing, Cond.code yX0_onRing cX0_onRing 2 (some .int), Cond.methodLink RX2 111 yX0_span, Cond.instanceMethod yX0_span, Cond.selects RX0 yX0_span yX0_span, Cond.code yX0_span cX0_span 3 (some .int), Cond.methodLink RX0 46 Lib.Math.min.name, Cond.static Lib.Math.min.name, Cond.initialized "java/lang/Math", Cond.code Lib.Math.min.name Lib.Math.min.code 2 (some .int), Cond.methodLink RX0 49 yX0_firstGreatest, Cond.instanceMethod yX0_firstGreatest, Cond.selects RX0 yX0_firstGreatest yX0_firstGreatest, Cond.code yX0_firstGreatest cX0_firstGreatest 3 (some .int)]
def wsX2_spanAfter : List Cond := .code yX2_spanAfter cX2_spanAfter 3 (some .int) :: ((wsX2_spanAfter_r1 ++ wsX2_spanAfter_r2) ++ wsX20 ++ wsX00)
def wsX2_spreadWith_r1 : List Cond := [Cond.methodLink RX2 52 yX2_requirePlace, Cond.instanceMethod yX2_requirePlace, Cond.selects RX2 yX2_requirePlace yX2_requirePlace, Cond.initialized RX2, Cond.code yX2_requirePlace cX2_requirePlace 2 none, Cond.classLink RX2 221 "java/lang/IndexOutOfBoundsException", Cond.initialized "java/lang/IndexOutOfBoundsException", Cond.fieldLink RX2 10 "RingSeesaw" "ring" "LRingSeesaw$Ring;", Cond.methodLink RX2 44 yX0_size, Cond.instanceMethod yX0_size, Cond.selects RX0 yX0_size yX0_size, Cond.initialized RX0, Cond.code yX0_size cX0_size 1 (some .int), Cond.fieldLink RX0 15 "RingSeesaw$Ring" "size" "I", Cond.methodLink RX2 66 yX2_requireTimes, Cond.instanceMethod yX2_requireTimes, Cond.selects RX2 yX2_requireTimes yX2_requireTimes, Cond.code yX2_requireTimes cX2_requireTimes 2 none, Cond.classLink RX2 37 "java/lang/IllegalArgumentException", Cond.initialized "java/lang/IllegalArgumentException", Cond.methodLink RX2 144 yX2_spanAfter, Cond.instanceMethod yX2_spanAfter, Cond.selects RX2 yX2_spanAfter yX2_spanAfter, Cond.code yX2_spanAfter cX2_spanAfter 3 (some .int)]
def wsX2_spreadWith_r2 : List Cond := [Cond.fieldLink RX2 27 "RingSeesaw" "trial" "LRingSeesaw$Ring;", Cond.methodLink RX2 89 yX0_copyFrom, Cond.instanceMethod yX0_copyFrom, Cond.selects RX0 yX0_copyFrom yX0_copyFrom, Cond.code yX0_copyFrom cX0_copyFrom 3 none, Cond.fieldLink RX0 9 "RingSeesaw$Ring" "numbers" "[I", Cond.methodLink RX0 23 yX0_at, Cond.instanceMethod yX0_at, Cond.selects RX0 yX0_at yX0_at, Cond.code yX0_at cX0_at 2 (some .int), Cond.methodLink RX0 19 yX0_write, Cond.instanceMethod yX0_write, Cond.selects RX0 yX0_write yX0_write, Cond.code yX0_write cX0_write 3 none, Cond.methodLink RX2 69 yX0_tipBy, Cond.instanceMethod yX0_tipBy, Cond.selects RX0 yX0_tipBy yX0_tipBy, Cond.code yX0_tipBy cX0_tipBy 3 none, Cond.methodLink RX0 27 yX0_add, Cond.instanceMethod yX0_add, Cond.selects RX0 yX0_add yX0_add, Cond.code yX0_add cX0_add 3 none, Cond.methodLink RX0 30 yX0_onRing, Cond.instanceMethod yX0_onRing]
def wsX2_spreadWith_r3 : List Cond := [Cond.selects RX0 yX0_onRing yX0_onRing, Cond.code yX0_onRing cX0_onRing 2 (some .int), Cond.methodLink RX2 111 yX0_span, Cond.instanceMethod yX0_span, Cond.selects RX0 yX0_span yX0_span, Cond.code yX0_span cX0_span 3 (some .int), Cond.methodLink RX0 46 Lib.Math.min.name, Cond.static Lib.Math.min.name, Cond.initialized "java/lang/Math", Cond.code Lib.Math.min.name Lib.Math.min.code 2 (some .int), Cond.methodLink RX0 49 yX0_firstGreatest, Cond.instanceMethod yX0_firstGreatest, Cond.selects RX0 yX0_firstGreatest yX0_firstGreatest, Cond.code yX0_firstGreatest cX0_firstGreatest 3 (some .int)]
def wsX2_spreadWith : List Cond := .code yX2_spreadWith cX2_spreadWith 3 (some .int) :: ((wsX2_spreadWith_r1 ++ (wsX2_spreadWith_r2 ++ wsX2_spreadWith_r3)) ++ wsX20 ++ wsX00 ++ (vx_atS RX2 225 "java/lang/IndexOutOfBoundsException" ["java/lang/RuntimeException", "java/lang/Exception"]).filter goodWord ++ (vx_atS RX2 41 "java/lang/IllegalArgumentException" ["java/lang/RuntimeException", "java/lang/Exception"]).filter goodWord)
def wsX2_bestPlace_r1 : List Cond := [Cond.fieldLink RX2 10 "RingSeesaw" "ring" "LRingSeesaw$Ring;", Cond.methodLink RX2 148 Lib.Math.min.name, Cond.static Lib.Math.min.name, Cond.initialized "java/lang/Math", Cond.code Lib.Math.min.name Lib.Math.min.code 2 (some .int), Cond.methodLink RX2 111 yX0_span, Cond.instanceMethod yX0_span, Cond.selects RX0 yX0_span yX0_span, Cond.initialized RX0, Cond.code yX0_span cX0_span 3 (some .int), Cond.fieldLink RX0 15 "RingSeesaw$Ring" "size" "I", Cond.methodLink RX0 46 Lib.Math.min.name, Cond.methodLink RX0 23 yX0_at, Cond.instanceMethod yX0_at, Cond.selects RX0 yX0_at yX0_at, Cond.code yX0_at cX0_at 2 (some .int), Cond.fieldLink RX0 9 "RingSeesaw$Ring" "numbers" "[I", Cond.methodLink RX0 49 yX0_firstGreatest, Cond.instanceMethod yX0_firstGreatest, Cond.selects RX0 yX0_firstGreatest yX0_firstGreatest, Cond.code yX0_firstGreatest cX0_firstGreatest 3 (some .int), Cond.methodLink RX2 44 yX0_size, Cond.instanceMethod yX0_size, Cond.selects RX0 yX0_size yX0_size]
def wsX2_bestPlace_r2 : List Cond := [Cond.code yX0_size cX0_size 1 (some .int), Cond.methodLink RX2 144 yX2_spanAfter, Cond.instanceMethod yX2_spanAfter, Cond.selects RX2 yX2_spanAfter yX2_spanAfter, Cond.initialized RX2, Cond.code yX2_spanAfter cX2_spanAfter 3 (some .int), Cond.fieldLink RX2 27 "RingSeesaw" "trial" "LRingSeesaw$Ring;", Cond.methodLink RX2 89 yX0_copyFrom, Cond.instanceMethod yX0_copyFrom, Cond.selects RX0 yX0_copyFrom yX0_copyFrom, Cond.code yX0_copyFrom cX0_copyFrom 3 none, Cond.methodLink RX0 19 yX0_write, Cond.instanceMethod yX0_write, Cond.selects RX0 yX0_write yX0_write, Cond.code yX0_write cX0_write 3 none, Cond.methodLink RX2 69 yX0_tipBy, Cond.instanceMethod yX0_tipBy, Cond.selects RX0 yX0_tipBy yX0_tipBy, Cond.code yX0_tipBy cX0_tipBy 3 none, Cond.methodLink RX0 27 yX0_add, Cond.instanceMethod yX0_add, Cond.selects RX0 yX0_add yX0_add, Cond.code yX0_add cX0_add 3 none, Cond.methodLink RX0 30 yX0_onRing]
def wsX2_bestPlace_r3 : List Cond := [Cond.instanceMethod yX0_onRing, Cond.selects RX0 yX0_onRing yX0_onRing, Cond.code yX0_onRing cX0_onRing 2 (some .int)]
def wsX2_bestPlace : List Cond := .code yX2_bestPlace cX2_bestPlace 5 (some .int) :: ((wsX2_bestPlace_r1 ++ (wsX2_bestPlace_r2 ++ wsX2_bestPlace_r3)) ++ wsX20 ++ wsX00)
def wsX2_firstPlaceFor_r1 : List Cond := [Cond.fieldLink RX2 10 "RingSeesaw" "ring" "LRingSeesaw$Ring;", Cond.fieldLink RX2 27 "RingSeesaw" "trial" "LRingSeesaw$Ring;", Cond.methodLink RX2 44 yX0_size, Cond.instanceMethod yX0_size, Cond.selects RX0 yX0_size yX0_size, Cond.initialized RX0, Cond.code yX0_size cX0_size 1 (some .int), Cond.fieldLink RX0 15 "RingSeesaw$Ring" "size" "I", Cond.methodLink RX2 89 yX0_copyFrom, Cond.instanceMethod yX0_copyFrom, Cond.selects RX0 yX0_copyFrom yX0_copyFrom, Cond.code yX0_copyFrom cX0_copyFrom 3 none, Cond.fieldLink RX0 9 "RingSeesaw$Ring" "numbers" "[I", Cond.methodLink RX0 23 yX0_at, Cond.instanceMethod yX0_at, Cond.selects RX0 yX0_at yX0_at, Cond.code yX0_at cX0_at 2 (some .int), Cond.methodLink RX0 19 yX0_write, Cond.instanceMethod yX0_write, Cond.selects RX0 yX0_write yX0_write, Cond.code yX0_write cX0_write 3 none, Cond.methodLink RX2 62 yX0_write, Cond.methodLink RX2 130 yX0_canBecome, Cond.instanceMethod yX0_canBecome]
def wsX2_firstPlaceFor_r2 : List Cond := [Cond.selects RX0 yX0_canBecome yX0_canBecome, Cond.code yX0_canBecome cX0_canBecome 2 (some .boolean), Cond.methodLink RX0 56 yX0_total, Cond.instanceMethod yX0_total, Cond.selects RX0 yX0_total yX0_total, Cond.code yX0_total cX0_total 3 (some .int), Cond.methodLink RX0 59 yX0_momentLeft, Cond.instanceMethod yX0_momentLeft, Cond.selects RX0 yX0_momentLeft yX0_momentLeft, Cond.code yX0_momentLeft cX0_momentLeft 3 (some .int), Cond.methodLink RX0 40 yJ9_floorMod_7cf53, Cond.static yJ9_floorMod_7cf53, Cond.initialized RJ9, Cond.code yJ9_floorMod_7cf53 cJ9_floorMod_7cf53 3 (some .int)]
def wsX2_firstPlaceFor : List Cond := .code yX2_firstPlaceFor cX2_firstPlaceFor 4 (some .int) :: ((wsX2_firstPlaceFor_r1 ++ wsX2_firstPlaceFor_r2) ++ wsX20 ++ wsX00)
def wsX2_placeFor_r1 : List Cond := [Cond.fieldLink RX2 20 "RingSeesaw" "keptCount" "I", Cond.methodLink RX2 55 yX2_requireNumber, Cond.instanceMethod yX2_requireNumber, Cond.selects RX2 yX2_requireNumber yX2_requireNumber, Cond.initialized RX2, Cond.code yX2_requireNumber cX2_requireNumber 2 none, Cond.classLink RX2 37 "java/lang/IllegalArgumentException", Cond.initialized "java/lang/IllegalArgumentException", Cond.methodLink RX2 85 yX2_keptRing, Cond.instanceMethod yX2_keptRing, Cond.selects RX2 yX2_keptRing yX2_keptRing, Cond.code yX2_keptRing cX2_keptRing 3 (some (.object "RingSeesaw$Ring")), Cond.classLink RX2 221 "java/lang/IndexOutOfBoundsException", Cond.initialized "java/lang/IndexOutOfBoundsException", Cond.fieldLink RX2 16 "RingSeesaw" "kept" "[LRingSeesaw$Ring;", Cond.methodLink RX2 151 yX2_firstPlaceFor, Cond.instanceMethod yX2_firstPlaceFor, Cond.selects RX2 yX2_firstPlaceFor yX2_firstPlaceFor, Cond.code yX2_firstPlaceFor cX2_firstPlaceFor 4 (some .int), Cond.fieldLink RX2 10 "RingSeesaw" "ring" "LRingSeesaw$Ring;", Cond.fieldLink RX2 27 "RingSeesaw" "trial" "LRingSeesaw$Ring;", Cond.methodLink RX2 44 yX0_size, Cond.instanceMethod yX0_size, Cond.selects RX0 yX0_size yX0_size]
def wsX2_placeFor_r2 : List Cond := [Cond.initialized RX0, Cond.code yX0_size cX0_size 1 (some .int), Cond.fieldLink RX0 15 "RingSeesaw$Ring" "size" "I", Cond.methodLink RX2 89 yX0_copyFrom, Cond.instanceMethod yX0_copyFrom, Cond.selects RX0 yX0_copyFrom yX0_copyFrom, Cond.code yX0_copyFrom cX0_copyFrom 3 none, Cond.fieldLink RX0 9 "RingSeesaw$Ring" "numbers" "[I", Cond.methodLink RX0 23 yX0_at, Cond.instanceMethod yX0_at, Cond.selects RX0 yX0_at yX0_at, Cond.code yX0_at cX0_at 2 (some .int), Cond.methodLink RX0 19 yX0_write, Cond.instanceMethod yX0_write, Cond.selects RX0 yX0_write yX0_write, Cond.code yX0_write cX0_write 3 none, Cond.methodLink RX2 62 yX0_write, Cond.methodLink RX2 130 yX0_canBecome, Cond.instanceMethod yX0_canBecome, Cond.selects RX0 yX0_canBecome yX0_canBecome, Cond.code yX0_canBecome cX0_canBecome 2 (some .boolean), Cond.methodLink RX0 56 yX0_total, Cond.instanceMethod yX0_total, Cond.selects RX0 yX0_total yX0_total]
def wsX2_placeFor_r3 : List Cond := [Cond.code yX0_total cX0_total 3 (some .int), Cond.methodLink RX0 59 yX0_momentLeft, Cond.instanceMethod yX0_momentLeft, Cond.selects RX0 yX0_momentLeft yX0_momentLeft, Cond.code yX0_momentLeft cX0_momentLeft 3 (some .int), Cond.methodLink RX0 40 yJ9_floorMod_7cf53, Cond.static yJ9_floorMod_7cf53, Cond.initialized RJ9, Cond.code yJ9_floorMod_7cf53 cJ9_floorMod_7cf53 3 (some .int)]
def wsX2_placeFor : List Cond := .code yX2_placeFor cX2_placeFor 2 (some .int) :: ((wsX2_placeFor_r1 ++ (wsX2_placeFor_r2 ++ wsX2_placeFor_r3)) ++ wsX20 ++ wsX00 ++ (vx_atS RX2 41 "java/lang/IllegalArgumentException" ["java/lang/RuntimeException", "java/lang/Exception"]).filter goodWord ++ (vx_atS RX2 225 "java/lang/IndexOutOfBoundsException" ["java/lang/RuntimeException", "java/lang/Exception"]).filter goodWord)
def wsX2_meanNumber : List Cond := .code yX2_meanNumber cX2_meanNumber 2 (some .double) :: ([.fieldLink RX2 10 "RingSeesaw" "ring" "LRingSeesaw$Ring;", .methodLink RX2 44 yX0_size, .instanceMethod yX0_size, .selects RX0 yX0_size yX0_size, .initialized RX0, .code yX0_size cX0_size 1 (some .int), .fieldLink RX0 15 "RingSeesaw$Ring" "size" "I", .methodLink RX2 105 yX0_total, .instanceMethod yX0_total, .selects RX0 yX0_total yX0_total, .code yX0_total cX0_total 3 (some .int), .methodLink RX0 23 yX0_at, .instanceMethod yX0_at, .selects RX0 yX0_at yX0_at, .code yX0_at cX0_at 2 (some .int), .fieldLink RX0 9 "RingSeesaw$Ring" "numbers" "[I"] ++ wsX20 ++ wsX00)
def wsX2_mixed : List Cond := .code yX2_mixed cX2_mixed 4 (some .long) :: ([.constantLong RX2 219 (31)])
def wsX2_mixedWithPlaces_r1 : List Cond := [Cond.fieldLink RX2 10 "RingSeesaw" "ring" "LRingSeesaw$Ring;", Cond.methodLink RX2 44 yX0_size, Cond.instanceMethod yX0_size, Cond.selects RX0 yX0_size yX0_size, Cond.initialized RX0, Cond.code yX0_size cX0_size 1 (some .int), Cond.fieldLink RX0 15 "RingSeesaw$Ring" "size" "I", Cond.methodLink RX2 58 yX0_at, Cond.instanceMethod yX0_at, Cond.selects RX0 yX0_at yX0_at, Cond.code yX0_at cX0_at 2 (some .int), Cond.fieldLink RX0 9 "RingSeesaw$Ring" "numbers" "[I", Cond.methodLink RX2 160 yX2_mixed, Cond.static yX2_mixed, Cond.initialized RX2, Cond.code yX2_mixed cX2_mixed 4 (some .long), Cond.constantLong RX2 219 (31), Cond.methodLink RX2 117 yX0_steepAt, Cond.instanceMethod yX0_steepAt, Cond.selects RX0 yX0_steepAt yX0_steepAt, Cond.code yX0_steepAt cX0_steepAt 2 (some .boolean), Cond.methodLink RX0 23 yX0_at, Cond.methodLink RX0 30 yX0_onRing, Cond.instanceMethod yX0_onRing]
def wsX2_mixedWithPlaces_r2 : List Cond := [Cond.selects RX0 yX0_onRing yX0_onRing, Cond.code yX0_onRing cX0_onRing 2 (some .int), Cond.methodLink RX2 124 yX0_tiltOn, Cond.instanceMethod yX0_tiltOn, Cond.selects RX0 yX0_tiltOn yX0_tiltOn, Cond.code yX0_tiltOn cX0_tiltOn 4 (some .int)]
def wsX2_mixedWithPlaces : List Cond := .code yX2_mixedWithPlaces cX2_mixedWithPlaces 6 (some .long) :: ((wsX2_mixedWithPlaces_r1 ++ wsX2_mixedWithPlaces_r2) ++ wsX20 ++ wsX00)
def wsX2_mixedWithTargets_r1 : List Cond := [Cond.fieldLink RX2 20 "RingSeesaw" "keptCount" "I", Cond.fieldLink RX2 10 "RingSeesaw" "ring" "LRingSeesaw$Ring;", Cond.methodLink RX2 85 yX2_keptRing, Cond.instanceMethod yX2_keptRing, Cond.selects RX2 yX2_keptRing yX2_keptRing, Cond.initialized RX2, Cond.code yX2_keptRing cX2_keptRing 3 (some (.object "RingSeesaw$Ring")), Cond.classLink RX2 221 "java/lang/IndexOutOfBoundsException", Cond.initialized "java/lang/IndexOutOfBoundsException", Cond.fieldLink RX2 16 "RingSeesaw" "kept" "[LRingSeesaw$Ring;", Cond.methodLink RX2 127 yX0_differencesFrom, Cond.instanceMethod yX0_differencesFrom, Cond.selects RX0 yX0_differencesFrom yX0_differencesFrom, Cond.initialized RX0, Cond.code yX0_differencesFrom cX0_differencesFrom 4 (some .int), Cond.fieldLink RX0 15 "RingSeesaw$Ring" "size" "I", Cond.methodLink RX0 23 yX0_at, Cond.instanceMethod yX0_at, Cond.selects RX0 yX0_at yX0_at, Cond.code yX0_at cX0_at 2 (some .int), Cond.fieldLink RX0 9 "RingSeesaw$Ring" "numbers" "[I", Cond.methodLink RX2 160 yX2_mixed, Cond.static yX2_mixed, Cond.code yX2_mixed cX2_mixed 4 (some .long)]
def wsX2_mixedWithTargets_r2 : List Cond := [Cond.constantLong RX2 219 (31), Cond.methodLink RX2 130 yX0_canBecome, Cond.instanceMethod yX0_canBecome, Cond.selects RX0 yX0_canBecome yX0_canBecome, Cond.code yX0_canBecome cX0_canBecome 2 (some .boolean), Cond.methodLink RX0 56 yX0_total, Cond.instanceMethod yX0_total, Cond.selects RX0 yX0_total yX0_total, Cond.code yX0_total cX0_total 3 (some .int), Cond.methodLink RX0 59 yX0_momentLeft, Cond.instanceMethod yX0_momentLeft, Cond.selects RX0 yX0_momentLeft yX0_momentLeft, Cond.code yX0_momentLeft cX0_momentLeft 3 (some .int), Cond.methodLink RX0 40 yJ9_floorMod_7cf53, Cond.static yJ9_floorMod_7cf53, Cond.initialized RJ9, Cond.code yJ9_floorMod_7cf53 cJ9_floorMod_7cf53 3 (some .int), Cond.methodLink RX2 101 yX2_fewestTo, Cond.instanceMethod yX2_fewestTo, Cond.selects RX2 yX2_fewestTo yX2_fewestTo, Cond.code yX2_fewestTo cX2_fewestTo 2 (some .int), Cond.fieldLink RX2 33 "RingSeesaw" "way" "LRingSeesaw$Way;", Cond.methodLink RX2 134 yX1_find, Cond.instanceMethod yX1_find]
def wsX2_mixedWithTargets_r3 : List Cond := [Cond.selects RX1 yX1_find yX1_find, Cond.initialized RX1, Cond.code yX1_find cX1_find 6 none, Cond.fieldLink RX1 15 "RingSeesaw$Way" "size" "I", Cond.fieldLink RX1 9 "RingSeesaw$Way" "tips" "[I", Cond.methodLink RX1 19 yX0_size, Cond.instanceMethod yX0_size, Cond.selects RX0 yX0_size yX0_size, Cond.code yX0_size cX0_size 1 (some .int), Cond.methodLink RX1 24 yX1_firstClimb, Cond.instanceMethod yX1_firstClimb, Cond.selects RX1 yX1_firstClimb yX1_firstClimb, Cond.code yX1_firstClimb cX1_firstClimb 5 (some .int), Cond.methodLink RX1 28 yX0_at, Cond.methodLink RX2 234 yX1_fewest, Cond.instanceMethod yX1_fewest, Cond.selects RX1 yX1_fewest yX1_fewest, Cond.code yX1_fewest cX1_fewest 3 (some .int), Cond.methodLink RX1 38 Lib.Math.min.name, Cond.static Lib.Math.min.name, Cond.initialized "java/lang/Math", Cond.code Lib.Math.min.name Lib.Math.min.code 2 (some .int), Cond.methodLink RX1 32 yX1_tipsAt, Cond.instanceMethod yX1_tipsAt]
def wsX2_mixedWithTargets_r4 : List Cond := [Cond.selects RX1 yX1_tipsAt yX1_tipsAt, Cond.code yX1_tipsAt cX1_tipsAt 2 (some .int), Cond.methodLink RX1 35 yX1_awayFrom, Cond.instanceMethod yX1_awayFrom, Cond.selects RX1 yX1_awayFrom yX1_awayFrom, Cond.code yX1_awayFrom cX1_awayFrom 4 (some .int), Cond.methodLink RX1 44 Lib.Math.abs.name, Cond.static Lib.Math.abs.name, Cond.code Lib.Math.abs.name Lib.Math.abs.code 1 (some .int)]
def wsX2_mixedWithTargets : List Cond := .code yX2_mixedWithTargets cX2_mixedWithTargets 7 (some .long) :: ((wsX2_mixedWithTargets_r1 ++ (wsX2_mixedWithTargets_r2 ++ (wsX2_mixedWithTargets_r3 ++ wsX2_mixedWithTargets_r4))) ++ wsX20 ++ wsX00 ++ wsX10 ++ (vx_atS RX2 225 "java/lang/IndexOutOfBoundsException" ["java/lang/RuntimeException", "java/lang/Exception"]).filter goodWord)
def wsX2_digest_r1 : List Cond := [Cond.constantLong RX2 155 (2333), Cond.methodLink RX2 157 yX2_places, Cond.instanceMethod yX2_places, Cond.selects RX2 yX2_places yX2_places, Cond.initialized RX2, Cond.code yX2_places cX2_places 1 (some .int), Cond.fieldLink RX2 10 "RingSeesaw" "ring" "LRingSeesaw$Ring;", Cond.methodLink RX2 44 yX0_size, Cond.instanceMethod yX0_size, Cond.selects RX0 yX0_size yX0_size, Cond.initialized RX0, Cond.code yX0_size cX0_size 1 (some .int), Cond.fieldLink RX0 15 "RingSeesaw$Ring" "size" "I", Cond.methodLink RX2 160 yX2_mixed, Cond.static yX2_mixed, Cond.code yX2_mixed cX2_mixed 4 (some .long), Cond.constantLong RX2 219 (31), Cond.methodLink RX2 164 yX2_targets, Cond.instanceMethod yX2_targets, Cond.selects RX2 yX2_targets yX2_targets, Cond.code yX2_targets cX2_targets 1 (some .int), Cond.fieldLink RX2 20 "RingSeesaw" "keptCount" "I", Cond.methodLink RX2 167 yX2_tips, Cond.instanceMethod yX2_tips]
def wsX2_digest_r2 : List Cond := [Cond.selects RX2 yX2_tips yX2_tips, Cond.code yX2_tips cX2_tips 1 (some .int), Cond.fieldLink RX2 24 "RingSeesaw" "tipsDone" "I", Cond.methodLink RX2 170 yX2_sum, Cond.instanceMethod yX2_sum, Cond.selects RX2 yX2_sum yX2_sum, Cond.code yX2_sum cX2_sum 1 (some .int), Cond.methodLink RX2 105 yX0_total, Cond.instanceMethod yX0_total, Cond.selects RX0 yX0_total yX0_total, Cond.code yX0_total cX0_total 3 (some .int), Cond.methodLink RX0 23 yX0_at, Cond.instanceMethod yX0_at, Cond.selects RX0 yX0_at yX0_at, Cond.code yX0_at cX0_at 2 (some .int), Cond.fieldLink RX0 9 "RingSeesaw$Ring" "numbers" "[I", Cond.methodLink RX2 173 yX2_moment, Cond.instanceMethod yX2_moment, Cond.selects RX2 yX2_moment yX2_moment, Cond.code yX2_moment cX2_moment 1 (some .int), Cond.methodLink RX2 108 yX0_momentLeft, Cond.instanceMethod yX0_momentLeft, Cond.selects RX0 yX0_momentLeft yX0_momentLeft, Cond.code yX0_momentLeft cX0_momentLeft 3 (some .int)]
def wsX2_digest_r3 : List Cond := [Cond.methodLink RX0 40 yJ9_floorMod_7cf53, Cond.static yJ9_floorMod_7cf53, Cond.initialized RJ9, Cond.code yJ9_floorMod_7cf53 cJ9_floorMod_7cf53 3 (some .int), Cond.methodLink RX2 176 yX2_spread, Cond.instanceMethod yX2_spread, Cond.selects RX2 yX2_spread yX2_spread, Cond.code yX2_spread cX2_spread 1 (some .int), Cond.methodLink RX2 111 yX0_span, Cond.instanceMethod yX0_span, Cond.selects RX0 yX0_span yX0_span, Cond.code yX0_span cX0_span 3 (some .int), Cond.methodLink RX0 46 Lib.Math.min.name, Cond.static Lib.Math.min.name, Cond.initialized "java/lang/Math", Cond.code Lib.Math.min.name Lib.Math.min.code 2 (some .int), Cond.methodLink RX0 49 yX0_firstGreatest, Cond.instanceMethod yX0_firstGreatest, Cond.selects RX0 yX0_firstGreatest yX0_firstGreatest, Cond.code yX0_firstGreatest cX0_firstGreatest 3 (some .int), Cond.methodLink RX2 179 yX2_highest, Cond.instanceMethod yX2_highest, Cond.selects RX2 yX2_highest yX2_highest, Cond.code yX2_highest cX2_highest 1 (some .int)]
def wsX2_digest_r4 : List Cond := [Cond.methodLink RX2 114 yX0_firstGreatest, Cond.methodLink RX2 182 yX2_steepPlaces, Cond.instanceMethod yX2_steepPlaces, Cond.selects RX2 yX2_steepPlaces yX2_steepPlaces, Cond.code yX2_steepPlaces cX2_steepPlaces 3 (some .int), Cond.methodLink RX2 117 yX0_steepAt, Cond.instanceMethod yX0_steepAt, Cond.selects RX0 yX0_steepAt yX0_steepAt, Cond.code yX0_steepAt cX0_steepAt 2 (some .boolean), Cond.methodLink RX0 30 yX0_onRing, Cond.instanceMethod yX0_onRing, Cond.selects RX0 yX0_onRing yX0_onRing, Cond.code yX0_onRing cX0_onRing 2 (some .int), Cond.methodLink RX2 185 yX2_nextToTip, Cond.instanceMethod yX2_nextToTip, Cond.selects RX2 yX2_nextToTip yX2_nextToTip, Cond.code yX2_nextToTip cX2_nextToTip 1 (some .int), Cond.methodLink RX2 121 yX0_firstSteep, Cond.instanceMethod yX0_firstSteep, Cond.selects RX0 yX0_firstSteep yX0_firstSteep, Cond.code yX0_firstSteep cX0_firstSteep 2 (some .int), Cond.methodLink RX0 52 yX0_steepAt, Cond.methodLink RX2 188 yX2_levelAxes, Cond.instanceMethod yX2_levelAxes]
def wsX2_digest_r5 : List Cond := [Cond.selects RX2 yX2_levelAxes yX2_levelAxes, Cond.code yX2_levelAxes cX2_levelAxes 3 (some .int), Cond.methodLink RX2 124 yX0_tiltOn, Cond.instanceMethod yX0_tiltOn, Cond.selects RX0 yX0_tiltOn yX0_tiltOn, Cond.code yX0_tiltOn cX0_tiltOn 4 (some .int), Cond.methodLink RX2 191 yX2_bestAxis, Cond.instanceMethod yX2_bestAxis, Cond.selects RX2 yX2_bestAxis yX2_bestAxis, Cond.code yX2_bestAxis cX2_bestAxis 3 (some .int), Cond.methodLink RX2 72 Lib.Math.abs.name, Cond.static Lib.Math.abs.name, Cond.code Lib.Math.abs.name Lib.Math.abs.code 1 (some .int), Cond.methodLink RX2 194 yX2_reachable, Cond.instanceMethod yX2_reachable, Cond.selects RX2 yX2_reachable yX2_reachable, Cond.code yX2_reachable cX2_reachable 3 (some .int), Cond.methodLink RX2 85 yX2_keptRing, Cond.instanceMethod yX2_keptRing, Cond.selects RX2 yX2_keptRing yX2_keptRing, Cond.code yX2_keptRing cX2_keptRing 3 (some (.object "RingSeesaw$Ring")), Cond.classLink RX2 221 "java/lang/IndexOutOfBoundsException", Cond.initialized "java/lang/IndexOutOfBoundsException", Cond.fieldLink RX2 16 "RingSeesaw" "kept" "[LRingSeesaw$Ring;"]
def wsX2_digest_r6 : List Cond := [Cond.methodLink RX2 130 yX0_canBecome, Cond.instanceMethod yX0_canBecome, Cond.selects RX0 yX0_canBecome yX0_canBecome, Cond.code yX0_canBecome cX0_canBecome 2 (some .boolean), Cond.methodLink RX0 56 yX0_total, Cond.methodLink RX0 59 yX0_momentLeft, Cond.methodLink RX2 197 yX2_nearestTarget, Cond.instanceMethod yX2_nearestTarget, Cond.selects RX2 yX2_nearestTarget yX2_nearestTarget, Cond.code yX2_nearestTarget cX2_nearestTarget 5 (some .int), Cond.methodLink RX2 101 yX2_fewestTo, Cond.instanceMethod yX2_fewestTo, Cond.selects RX2 yX2_fewestTo yX2_fewestTo, Cond.code yX2_fewestTo cX2_fewestTo 2 (some .int), Cond.fieldLink RX2 33 "RingSeesaw" "way" "LRingSeesaw$Way;", Cond.methodLink RX2 134 yX1_find, Cond.instanceMethod yX1_find, Cond.selects RX1 yX1_find yX1_find, Cond.initialized RX1, Cond.code yX1_find cX1_find 6 none, Cond.fieldLink RX1 15 "RingSeesaw$Way" "size" "I", Cond.fieldLink RX1 9 "RingSeesaw$Way" "tips" "[I", Cond.methodLink RX1 19 yX0_size, Cond.methodLink RX1 24 yX1_firstClimb]
def wsX2_digest_r7 : List Cond := [Cond.instanceMethod yX1_firstClimb, Cond.selects RX1 yX1_firstClimb yX1_firstClimb, Cond.code yX1_firstClimb cX1_firstClimb 5 (some .int), Cond.methodLink RX1 28 yX0_at, Cond.methodLink RX2 234 yX1_fewest, Cond.instanceMethod yX1_fewest, Cond.selects RX1 yX1_fewest yX1_fewest, Cond.code yX1_fewest cX1_fewest 3 (some .int), Cond.methodLink RX1 38 Lib.Math.min.name, Cond.methodLink RX1 32 yX1_tipsAt, Cond.instanceMethod yX1_tipsAt, Cond.selects RX1 yX1_tipsAt yX1_tipsAt, Cond.code yX1_tipsAt cX1_tipsAt 2 (some .int), Cond.methodLink RX1 35 yX1_awayFrom, Cond.instanceMethod yX1_awayFrom, Cond.selects RX1 yX1_awayFrom yX1_awayFrom, Cond.code yX1_awayFrom cX1_awayFrom 4 (some .int), Cond.methodLink RX1 44 Lib.Math.abs.name, Cond.methodLink RX2 200 yX2_stepsToRest, Cond.instanceMethod yX2_stepsToRest, Cond.selects RX2 yX2_stepsToRest yX2_stepsToRest, Cond.code yX2_stepsToRest cX2_stepsToRest 1 (some .int), Cond.methodLink RX2 141 yX2_tryToRest, Cond.instanceMethod yX2_tryToRest]
def wsX2_digest_r8 : List Cond := [Cond.selects RX2 yX2_tryToRest yX2_tryToRest, Cond.code yX2_tryToRest cX2_tryToRest 2 (some .int), Cond.fieldLink RX2 27 "RingSeesaw" "trial" "LRingSeesaw$Ring;", Cond.methodLink RX2 89 yX0_copyFrom, Cond.instanceMethod yX0_copyFrom, Cond.selects RX0 yX0_copyFrom yX0_copyFrom, Cond.code yX0_copyFrom cX0_copyFrom 3 none, Cond.methodLink RX0 19 yX0_write, Cond.instanceMethod yX0_write, Cond.selects RX0 yX0_write yX0_write, Cond.code yX0_write cX0_write 3 none, Cond.methodLink RX2 95 yX0_settleBy, Cond.instanceMethod yX0_settleBy, Cond.selects RX0 yX0_settleBy yX0_settleBy, Cond.code yX0_settleBy cX0_settleBy 4 (some .int), Cond.methodLink RX0 33 yX0_firstSteep, Cond.methodLink RX0 37 yX0_tipBy, Cond.instanceMethod yX0_tipBy, Cond.selects RX0 yX0_tipBy yX0_tipBy, Cond.code yX0_tipBy cX0_tipBy 3 none, Cond.methodLink RX0 27 yX0_add, Cond.instanceMethod yX0_add, Cond.selects RX0 yX0_add yX0_add, Cond.code yX0_add cX0_add 3 none]
def wsX2_digest_r9 : List Cond := [Cond.methodLink RX2 203 yX2_spreadAtRest, Cond.instanceMethod yX2_spreadAtRest, Cond.selects RX2 yX2_spreadAtRest yX2_spreadAtRest, Cond.code yX2_spreadAtRest cX2_spreadAtRest 1 (some .int), Cond.methodLink RX2 206 yX2_bestPlace, Cond.instanceMethod yX2_bestPlace, Cond.selects RX2 yX2_bestPlace yX2_bestPlace, Cond.code yX2_bestPlace cX2_bestPlace 5 (some .int), Cond.methodLink RX2 148 Lib.Math.min.name, Cond.methodLink RX2 144 yX2_spanAfter, Cond.instanceMethod yX2_spanAfter, Cond.selects RX2 yX2_spanAfter yX2_spanAfter, Cond.code yX2_spanAfter cX2_spanAfter 3 (some .int), Cond.methodLink RX2 69 yX0_tipBy, Cond.methodLink RX2 209 yX2_placeFor, Cond.instanceMethod yX2_placeFor, Cond.selects RX2 yX2_placeFor yX2_placeFor, Cond.code yX2_placeFor cX2_placeFor 2 (some .int), Cond.methodLink RX2 55 yX2_requireNumber, Cond.instanceMethod yX2_requireNumber, Cond.selects RX2 yX2_requireNumber yX2_requireNumber, Cond.code yX2_requireNumber cX2_requireNumber 2 none, Cond.classLink RX2 37 "java/lang/IllegalArgumentException", Cond.initialized "java/lang/IllegalArgumentException"]
def wsX2_digest_r10 : List Cond := [Cond.methodLink RX2 151 yX2_firstPlaceFor, Cond.instanceMethod yX2_firstPlaceFor, Cond.selects RX2 yX2_firstPlaceFor yX2_firstPlaceFor, Cond.code yX2_firstPlaceFor cX2_firstPlaceFor 4 (some .int), Cond.methodLink RX2 62 yX0_write, Cond.methodLink RX2 212 yX2_mixedWithPlaces, Cond.instanceMethod yX2_mixedWithPlaces, Cond.selects RX2 yX2_mixedWithPlaces yX2_mixedWithPlaces, Cond.code yX2_mixedWithPlaces cX2_mixedWithPlaces 6 (some .long), Cond.methodLink RX2 58 yX0_at, Cond.methodLink RX2 216 yX2_mixedWithTargets, Cond.instanceMethod yX2_mixedWithTargets, Cond.selects RX2 yX2_mixedWithTargets yX2_mixedWithTargets, Cond.code yX2_mixedWithTargets cX2_mixedWithTargets 7 (some .long), Cond.methodLink RX2 127 yX0_differencesFrom, Cond.instanceMethod yX0_differencesFrom, Cond.selects RX0 yX0_differencesFrom yX0_differencesFrom, Cond.code yX0_differencesFrom cX0_differencesFrom 4 (some .int)]
def wsX2_digest : List Cond := .code yX2_digest cX2_digest 3 (some .long) :: ((wsX2_digest_r1 ++ (wsX2_digest_r2 ++ (wsX2_digest_r3 ++ (wsX2_digest_r4 ++ (wsX2_digest_r5 ++ (wsX2_digest_r6 ++ (wsX2_digest_r7 ++ (wsX2_digest_r8 ++ (wsX2_digest_r9 ++ wsX2_digest_r10))))))))) ++ wsX20 ++ wsX00 ++ wsX10 ++ (vx_atS RX2 225 "java/lang/IndexOutOfBoundsException" ["java/lang/RuntimeException", "java/lang/Exception"]).filter goodWord ++ (vx_atS RX2 41 "java/lang/IllegalArgumentException" ["java/lang/RuntimeException", "java/lang/Exception"]).filter goodWord)
def wsX3_init : List Cond := .code yX3_init cX3_init 1 none :: ([.methodLink RX3 1 objectInit, .instanceMethod objectInit, .code objectInit ⟨#[0xb1]⟩ 1 none, .arrayClass .int, .fieldLink RX3 7 "RingSeesawLaw$Sim" "ring" "[I", .classLink RX3 13 "[I", .fieldLink RX3 14 "RingSeesawLaw$Sim" "targets" "[[I"] ++ wsX30)
def wsX3_with : List Cond := .code yX3_with cX3_with 4 (some (.array (.array .int))) :: ([.classLink RX3 13 "[I"])
def wsX3_at : List Cond := .code yX3_at cX3_at 3 (some .int) :: ([])
def wsX3_bend : List Cond := .code yX3_bend cX3_bend 3 (some .int) :: ([.methodLink RX3 18 yX3_at, .instanceMethod yX3_at, .selects RX3 yX3_at yX3_at, .initialized RX3, .code yX3_at cX3_at 3 (some .int)])
def wsX3_tipped : List Cond := .code yX3_tipped cX3_tipped 6 (some (.array .int)) :: ([.methodLink RX3 22 ⟨"[I", "clone", "()Ljava/lang/Object;"⟩, .sameMethod "[I" "java/lang/Object" "clone" "()Ljava/lang/Object;", .native ⟨"java/lang/Object", "clone", "()Ljava/lang/Object;"⟩, .instanceMethod ⟨"java/lang/Object", "clone", "()Ljava/lang/Object;"⟩, .selects "[I" ⟨"[I", "clone", "()Ljava/lang/Object;"⟩ ⟨"java/lang/Object", "clone", "()Ljava/lang/Object;"⟩, .classLink RX3 13 "[I"])
def wsX3_steep : List Cond := .code yX3_steep cX3_steep 3 (some .int) :: ([.methodLink RX3 26 yX3_bend, .instanceMethod yX3_bend, .selects RX3 yX3_bend yX3_bend, .initialized RX3, .code yX3_bend cX3_bend 3 (some .int), .methodLink RX3 18 yX3_at, .instanceMethod yX3_at, .selects RX3 yX3_at yX3_at, .code yX3_at cX3_at 3 (some .int)])
def wsX3_spread : List Cond := .code yX3_spread cX3_spread 7 (some .int) :: ([.constant RX3 31 (2147483647), .constant RX3 32 (-2147483648), .methodLink RX3 33 Lib.Math.min.name, .static Lib.Math.min.name, .initialized "java/lang/Math", .code Lib.Math.min.name Lib.Math.min.code 2 (some .int), .methodLink RX3 39 Lib.Math.max.name, .static Lib.Math.max.name, .code Lib.Math.max.name Lib.Math.max.code 2 (some .int)])
def wsX3_sum : List Cond := .code yX3_sum cX3_sum 6 (some .int) :: ([])
def wsX3_moment : List Cond := .code yX3_moment cX3_moment 3 (some .int) :: ([])
def wsX3_tilt : List Cond := .code yX3_tilt cX3_tilt 4 (some .int) :: ([.fieldLink RX3 7 "RingSeesawLaw$Sim" "ring" "[I", .methodLink RX3 18 yX3_at, .instanceMethod yX3_at, .selects RX3 yX3_at yX3_at, .initialized RX3, .code yX3_at cX3_at 3 (some .int)] ++ wsX30)
def wsX3_can : List Cond := .code yX3_can cX3_can 3 (some .boolean) :: ([.fieldLink RX3 14 "RingSeesawLaw$Sim" "targets" "[[I", .methodLink RX3 42 yX3_sum, .static yX3_sum, .initialized RX3, .code yX3_sum cX3_sum 6 (some .int), .methodLink RX3 46 yX3_moment, .static yX3_moment, .code yX3_moment cX3_moment 3 (some .int)] ++ wsX30)
def wsX3_tipsTo : List Cond := .code yX3_tipsTo cX3_tipsTo 7 (some (.array .int)) :: ([.fieldLink RX3 7 "RingSeesawLaw$Sim" "ring" "[I", .arrayClass .int, .fieldLink RX3 14 "RingSeesawLaw$Sim" "targets" "[[I"] ++ wsX30)
def wsX3_fewest : List Cond := .code yX3_fewest cX3_fewest 9 (some .int) :: ([.methodLink RX3 53 Lib.Math.abs.name, .static Lib.Math.abs.name, .initialized "java/lang/Math", .code Lib.Math.abs.name Lib.Math.abs.code 1 (some .int), .methodLink RX3 49 yX3_tipsTo, .instanceMethod yX3_tipsTo, .selects RX3 yX3_tipsTo yX3_tipsTo, .initialized RX3, .code yX3_tipsTo cX3_tipsTo 7 (some (.array .int)), .fieldLink RX3 7 "RingSeesawLaw$Sim" "ring" "[I", .arrayClass .int, .fieldLink RX3 14 "RingSeesawLaw$Sim" "targets" "[[I"] ++ wsX30)
def wsX3_settle_r1 : List Cond := [Cond.fieldLink RX3 7 "RingSeesawLaw$Sim" "ring" "[I", Cond.fieldLink RX3 64 "RingSeesawLaw$Sim" "tips" "I", Cond.methodLink RX3 57 yX3_steep, Cond.instanceMethod yX3_steep, Cond.selects RX3 yX3_steep yX3_steep, Cond.initialized RX3, Cond.code yX3_steep cX3_steep 3 (some .int), Cond.methodLink RX3 26 yX3_bend, Cond.instanceMethod yX3_bend, Cond.selects RX3 yX3_bend yX3_bend, Cond.code yX3_bend cX3_bend 3 (some .int), Cond.methodLink RX3 18 yX3_at, Cond.instanceMethod yX3_at, Cond.selects RX3 yX3_at yX3_at, Cond.code yX3_at cX3_at 3 (some .int), Cond.methodLink RX3 60 yX3_tipped, Cond.instanceMethod yX3_tipped, Cond.selects RX3 yX3_tipped yX3_tipped, Cond.code yX3_tipped cX3_tipped 6 (some (.array .int)), Cond.methodLink RX3 22 ⟨"[I", "clone", "()Ljava/lang/Object;"⟩, Cond.sameMethod "[I" "java/lang/Object" "clone" "()Ljava/lang/Object;", Cond.native ⟨"java/lang/Object", "clone", "()Ljava/lang/Object;"⟩, Cond.instanceMethod ⟨"java/lang/Object", "clone", "()Ljava/lang/Object;"⟩, Cond.selects "[I" ⟨"[I", "clone", "()Ljava/lang/Object;"⟩ ⟨"java/lang/Object", "clone", "()Ljava/lang/Object;"⟩]
def wsX3_settle_r2 : List Cond := [Cond.classLink RX3 13 "[I"]
def wsX3_settle : List Cond := .code yX3_settle cX3_settle 4 (some .int) :: ((wsX3_settle_r1 ++ wsX3_settle_r2) ++ wsX30)
def wsX3_isSame_r1 : List Cond := [Cond.fieldLink RX3 7 "RingSeesawLaw$Sim" "ring" "[I", Cond.methodLink RX3 53 Lib.Math.abs.name, Cond.static Lib.Math.abs.name, Cond.initialized "java/lang/Math", Cond.code Lib.Math.abs.name Lib.Math.abs.code 1 (some .int), Cond.fieldLink RX3 14 "RingSeesawLaw$Sim" "targets" "[[I", Cond.fieldLink RX3 64 "RingSeesawLaw$Sim" "tips" "I", Cond.methodLink RX3 68 yX3_tilt, Cond.instanceMethod yX3_tilt, Cond.selects RX3 yX3_tilt yX3_tilt, Cond.initialized RX3, Cond.code yX3_tilt cX3_tilt 4 (some .int), Cond.methodLink RX3 18 yX3_at, Cond.instanceMethod yX3_at, Cond.selects RX3 yX3_at yX3_at, Cond.code yX3_at cX3_at 3 (some .int), Cond.methodLink RX3 26 yX3_bend, Cond.instanceMethod yX3_bend, Cond.selects RX3 yX3_bend yX3_bend, Cond.code yX3_bend cX3_bend 3 (some .int), Cond.methodLink RX3 71 yX2_numberAt, Cond.instanceMethod yX2_numberAt, Cond.selects RX2 yX2_numberAt yX2_numberAt, Cond.initialized RX2]
def wsX3_isSame_r2 : List Cond := [Cond.code yX2_numberAt cX2_numberAt 2 (some .int), Cond.fieldLink RX2 10 "RingSeesaw" "ring" "LRingSeesaw$Ring;", Cond.methodLink RX2 52 yX2_requirePlace, Cond.instanceMethod yX2_requirePlace, Cond.selects RX2 yX2_requirePlace yX2_requirePlace, Cond.code yX2_requirePlace cX2_requirePlace 2 none, Cond.classLink RX2 221 "java/lang/IndexOutOfBoundsException", Cond.initialized "java/lang/IndexOutOfBoundsException", Cond.methodLink RX2 44 yX0_size, Cond.instanceMethod yX0_size, Cond.selects RX0 yX0_size yX0_size, Cond.initialized RX0, Cond.code yX0_size cX0_size 1 (some .int), Cond.fieldLink RX0 15 "RingSeesaw$Ring" "size" "I", Cond.methodLink RX2 58 yX0_at, Cond.instanceMethod yX0_at, Cond.selects RX0 yX0_at yX0_at, Cond.code yX0_at cX0_at 2 (some .int), Cond.fieldLink RX0 9 "RingSeesaw$Ring" "numbers" "[I", Cond.methodLink RX3 76 yX2_isSteep, Cond.instanceMethod yX2_isSteep, Cond.selects RX2 yX2_isSteep yX2_isSteep, Cond.code yX2_isSteep cX2_isSteep 2 (some .boolean), Cond.methodLink RX2 117 yX0_steepAt]
def wsX3_isSame_r3 : List Cond := [Cond.instanceMethod yX0_steepAt, Cond.selects RX0 yX0_steepAt yX0_steepAt, Cond.code yX0_steepAt cX0_steepAt 2 (some .boolean), Cond.methodLink RX0 23 yX0_at, Cond.methodLink RX0 30 yX0_onRing, Cond.instanceMethod yX0_onRing, Cond.selects RX0 yX0_onRing yX0_onRing, Cond.code yX0_onRing cX0_onRing 2 (some .int), Cond.methodLink RX3 80 yX2_tilt, Cond.instanceMethod yX2_tilt, Cond.selects RX2 yX2_tilt yX2_tilt, Cond.code yX2_tilt cX2_tilt 2 (some .int), Cond.methodLink RX2 124 yX0_tiltOn, Cond.instanceMethod yX0_tiltOn, Cond.selects RX0 yX0_tiltOn yX0_tiltOn, Cond.code yX0_tiltOn cX0_tiltOn 4 (some .int), Cond.methodLink RX3 81 yX2_numberIn, Cond.instanceMethod yX2_numberIn, Cond.selects RX2 yX2_numberIn yX2_numberIn, Cond.code yX2_numberIn cX2_numberIn 4 (some .int), Cond.methodLink RX2 85 yX2_keptRing, Cond.instanceMethod yX2_keptRing, Cond.selects RX2 yX2_keptRing yX2_keptRing, Cond.code yX2_keptRing cX2_keptRing 3 (some (.object "RingSeesaw$Ring"))]
def wsX3_isSame_r4 : List Cond := [Cond.fieldLink RX2 20 "RingSeesaw" "keptCount" "I", Cond.fieldLink RX2 16 "RingSeesaw" "kept" "[LRingSeesaw$Ring;", Cond.methodLink RX3 84 yX3_can, Cond.instanceMethod yX3_can, Cond.selects RX3 yX3_can yX3_can, Cond.code yX3_can cX3_can 3 (some .boolean), Cond.methodLink RX3 42 yX3_sum, Cond.static yX3_sum, Cond.code yX3_sum cX3_sum 6 (some .int), Cond.methodLink RX3 46 yX3_moment, Cond.static yX3_moment, Cond.code yX3_moment cX3_moment 3 (some .int), Cond.methodLink RX3 88 yX2_differences, Cond.instanceMethod yX2_differences, Cond.selects RX2 yX2_differences yX2_differences, Cond.code yX2_differences cX2_differences 2 (some .int), Cond.methodLink RX2 127 yX0_differencesFrom, Cond.instanceMethod yX0_differencesFrom, Cond.selects RX0 yX0_differencesFrom yX0_differencesFrom, Cond.code yX0_differencesFrom cX0_differencesFrom 4 (some .int), Cond.methodLink RX3 91 yX2_canReach, Cond.instanceMethod yX2_canReach, Cond.selects RX2 yX2_canReach yX2_canReach, Cond.code yX2_canReach cX2_canReach 2 (some .boolean)]
def wsX3_isSame_r5 : List Cond := [Cond.methodLink RX2 130 yX0_canBecome, Cond.instanceMethod yX0_canBecome, Cond.selects RX0 yX0_canBecome yX0_canBecome, Cond.code yX0_canBecome cX0_canBecome 2 (some .boolean), Cond.methodLink RX0 56 yX0_total, Cond.instanceMethod yX0_total, Cond.selects RX0 yX0_total yX0_total, Cond.code yX0_total cX0_total 3 (some .int), Cond.methodLink RX0 59 yX0_momentLeft, Cond.instanceMethod yX0_momentLeft, Cond.selects RX0 yX0_momentLeft yX0_momentLeft, Cond.code yX0_momentLeft cX0_momentLeft 3 (some .int), Cond.methodLink RX0 40 yJ9_floorMod_7cf53, Cond.static yJ9_floorMod_7cf53, Cond.initialized RJ9, Cond.code yJ9_floorMod_7cf53 cJ9_floorMod_7cf53 3 (some .int), Cond.methodLink RX3 94 yX2_places, Cond.instanceMethod yX2_places, Cond.selects RX2 yX2_places yX2_places, Cond.code yX2_places cX2_places 1 (some .int), Cond.methodLink RX3 98 yX2_targets, Cond.instanceMethod yX2_targets, Cond.selects RX2 yX2_targets yX2_targets, Cond.code yX2_targets cX2_targets 1 (some .int)]
def wsX3_isSame_r6 : List Cond := [Cond.methodLink RX3 100 yX2_tips, Cond.instanceMethod yX2_tips, Cond.selects RX2 yX2_tips yX2_tips, Cond.code yX2_tips cX2_tips 1 (some .int), Cond.fieldLink RX2 24 "RingSeesaw" "tipsDone" "I", Cond.methodLink RX3 102 yX2_sum, Cond.instanceMethod yX2_sum, Cond.selects RX2 yX2_sum yX2_sum, Cond.code yX2_sum cX2_sum 1 (some .int), Cond.methodLink RX2 105 yX0_total, Cond.methodLink RX3 104 yX2_moment, Cond.instanceMethod yX2_moment, Cond.selects RX2 yX2_moment yX2_moment, Cond.code yX2_moment cX2_moment 1 (some .int), Cond.methodLink RX2 108 yX0_momentLeft, Cond.methodLink RX3 106 yX2_spread, Cond.instanceMethod yX2_spread, Cond.selects RX2 yX2_spread yX2_spread, Cond.code yX2_spread cX2_spread 1 (some .int), Cond.methodLink RX2 111 yX0_span, Cond.instanceMethod yX0_span, Cond.selects RX0 yX0_span yX0_span, Cond.code yX0_span cX0_span 3 (some .int), Cond.methodLink RX0 46 Lib.Math.min.name]
def wsX3_isSame_r7 : List Cond := [Cond.static Lib.Math.min.name, Cond.code Lib.Math.min.name Lib.Math.min.code 2 (some .int), Cond.methodLink RX0 49 yX0_firstGreatest, Cond.instanceMethod yX0_firstGreatest, Cond.selects RX0 yX0_firstGreatest yX0_firstGreatest, Cond.code yX0_firstGreatest cX0_firstGreatest 3 (some .int), Cond.methodLink RX3 109 yX3_spread, Cond.static yX3_spread, Cond.code yX3_spread cX3_spread 7 (some .int), Cond.constant RX3 31 (2147483647), Cond.constant RX3 32 (-2147483648), Cond.methodLink RX3 33 Lib.Math.min.name, Cond.methodLink RX3 39 Lib.Math.max.name, Cond.static Lib.Math.max.name, Cond.code Lib.Math.max.name Lib.Math.max.code 2 (some .int), Cond.methodLink RX3 111 yX2_highest, Cond.instanceMethod yX2_highest, Cond.selects RX2 yX2_highest yX2_highest, Cond.code yX2_highest cX2_highest 1 (some .int), Cond.methodLink RX2 114 yX0_firstGreatest, Cond.methodLink RX3 114 yX2_steepPlaces, Cond.instanceMethod yX2_steepPlaces, Cond.selects RX2 yX2_steepPlaces yX2_steepPlaces, Cond.code yX2_steepPlaces cX2_steepPlaces 3 (some .int)]
def wsX3_isSame_r8 : List Cond := [Cond.methodLink RX3 117 yX2_nextToTip, Cond.instanceMethod yX2_nextToTip, Cond.selects RX2 yX2_nextToTip yX2_nextToTip, Cond.code yX2_nextToTip cX2_nextToTip 1 (some .int), Cond.methodLink RX2 121 yX0_firstSteep, Cond.instanceMethod yX0_firstSteep, Cond.selects RX0 yX0_firstSteep yX0_firstSteep, Cond.code yX0_firstSteep cX0_firstSteep 2 (some .int), Cond.methodLink RX0 52 yX0_steepAt, Cond.methodLink RX3 57 yX3_steep, Cond.instanceMethod yX3_steep, Cond.selects RX3 yX3_steep yX3_steep, Cond.code yX3_steep cX3_steep 3 (some .int), Cond.methodLink RX3 120 yX2_levelAxes, Cond.instanceMethod yX2_levelAxes, Cond.selects RX2 yX2_levelAxes yX2_levelAxes, Cond.code yX2_levelAxes cX2_levelAxes 3 (some .int), Cond.methodLink RX3 123 yX2_bestAxis, Cond.instanceMethod yX2_bestAxis, Cond.selects RX2 yX2_bestAxis yX2_bestAxis, Cond.code yX2_bestAxis cX2_bestAxis 3 (some .int), Cond.methodLink RX2 72 Lib.Math.abs.name, Cond.methodLink RX3 126 yX2_reachable, Cond.instanceMethod yX2_reachable]
def wsX3_isSame_r9 : List Cond := [Cond.selects RX2 yX2_reachable yX2_reachable, Cond.code yX2_reachable cX2_reachable 3 (some .int), Cond.methodLink RX3 129 yX2_meanNumber, Cond.instanceMethod yX2_meanNumber, Cond.selects RX2 yX2_meanNumber yX2_meanNumber, Cond.code yX2_meanNumber cX2_meanNumber 2 (some .double)]
def wsX3_isSame : List Cond := .code yX3_isSame cX3_isSame 11 (some .boolean) :: ((wsX3_isSame_r1 ++ (wsX3_isSame_r2 ++ (wsX3_isSame_r3 ++ (wsX3_isSame_r4 ++ (wsX3_isSame_r5 ++ (wsX3_isSame_r6 ++ (wsX3_isSame_r7 ++ (wsX3_isSame_r8 ++ wsX3_isSame_r9)))))))) ++ wsX30 ++ wsX20 ++ wsX00 ++ (vx_atS RX2 225 "java/lang/IndexOutOfBoundsException" ["java/lang/RuntimeException", "java/lang/Exception"]).filter goodWord)
def wsJ9_abs_0f7a4 : List Cond := .code yJ9_abs_0f7a4 cJ9_abs_0f7a4 1 (some .int) :: ([])
def wsJ9_max_7cf53 : List Cond := .code yJ9_max_7cf53 cJ9_max_7cf53 2 (some .int) :: ([])
def wsJ9_min_7cf53 : List Cond := .code yJ9_min_7cf53 cJ9_min_7cf53 2 (some .int) :: ([])
def wsL_below : List Cond := .code yL_below cL_below 2 (some .int) :: ([.constant RL 7 (2147483647)])
def wsL_cell : List Cond := .code yL_cell cL_cell 2 (some .int) :: ([.constant RL 8 (790386105)])
def wsL_act_r1 : List Cond := [Cond.classLink RL 80 "java/lang/IllegalStateException", Cond.fieldLink RL 9 "RingSeesawLaw$Sim" "ring" "[I", Cond.arrayClass .int, Cond.classLink RL 21 "[I", Cond.fieldLink RL 22 "RingSeesawLaw$Sim" "targets" "[[I", Cond.methodLink RL 32 ⟨"[I", "clone", "()Ljava/lang/Object;"⟩, Cond.sameMethod "[I" "java/lang/Object" "clone" "()Ljava/lang/Object;", Cond.native ⟨"java/lang/Object", "clone", "()Ljava/lang/Object;"⟩, Cond.instanceMethod ⟨"java/lang/Object", "clone", "()Ljava/lang/Object;"⟩, Cond.selects "[I" ⟨"[I", "clone", "()Ljava/lang/Object;"⟩ ⟨"java/lang/Object", "clone", "()Ljava/lang/Object;"⟩, Cond.fieldLink RL 43 "RingSeesawLaw$Sim" "tips" "I", Cond.methodLink RL 47 Lib.Math.abs.name, Cond.static Lib.Math.abs.name, Cond.initialized "java/lang/Math", Cond.code Lib.Math.abs.name Lib.Math.abs.code 1 (some .int), Cond.methodLink RL 15 yL_below, Cond.static yL_below, Cond.initialized RL, Cond.code yL_below cL_below 2 (some .int), Cond.constant RL 7 (2147483647), Cond.methodLink RL 26 yX2_lay, Cond.instanceMethod yX2_lay, Cond.selects RX2 yX2_lay yX2_lay, Cond.initialized RX2]
def wsL_act_r2 : List Cond := [Cond.code yX2_lay cX2_lay 3 (some .int), Cond.classLink RX2 37 "java/lang/IllegalArgumentException", Cond.initialized "java/lang/IllegalArgumentException", Cond.fieldLink RX2 10 "RingSeesaw" "ring" "LRingSeesaw$Ring;", Cond.fieldLink RX2 20 "RingSeesaw" "keptCount" "I", Cond.methodLink RX2 44 yX0_size, Cond.instanceMethod yX0_size, Cond.selects RX0 yX0_size yX0_size, Cond.initialized RX0, Cond.code yX0_size cX0_size 1 (some .int), Cond.fieldLink RX0 15 "RingSeesaw$Ring" "size" "I", Cond.methodLink RX2 48 yX0_clear, Cond.instanceMethod yX0_clear, Cond.selects RX0 yX0_clear yX0_clear, Cond.code yX0_clear cX0_clear 3 none, Cond.fieldLink RX0 9 "RingSeesaw$Ring" "numbers" "[I", Cond.methodLink RX0 19 yX0_write, Cond.instanceMethod yX0_write, Cond.selects RX0 yX0_write yX0_write, Cond.code yX0_write cX0_write 3 none, Cond.methodLink RL 36 yX2_put, Cond.instanceMethod yX2_put, Cond.selects RX2 yX2_put yX2_put, Cond.code yX2_put cX2_put 4 (some .int)]
def wsL_act_r3 : List Cond := [Cond.methodLink RX2 52 yX2_requirePlace, Cond.instanceMethod yX2_requirePlace, Cond.selects RX2 yX2_requirePlace yX2_requirePlace, Cond.code yX2_requirePlace cX2_requirePlace 2 none, Cond.classLink RX2 221 "java/lang/IndexOutOfBoundsException", Cond.initialized "java/lang/IndexOutOfBoundsException", Cond.methodLink RX2 55 yX2_requireNumber, Cond.instanceMethod yX2_requireNumber, Cond.selects RX2 yX2_requireNumber yX2_requireNumber, Cond.code yX2_requireNumber cX2_requireNumber 2 none, Cond.methodLink RX2 58 yX0_at, Cond.instanceMethod yX0_at, Cond.selects RX0 yX0_at yX0_at, Cond.code yX0_at cX0_at 2 (some .int), Cond.methodLink RX2 62 yX0_write, Cond.methodLink RL 39 yX3_tipped, Cond.instanceMethod yX3_tipped, Cond.selects RX3 yX3_tipped yX3_tipped, Cond.initialized RX3, Cond.code yX3_tipped cX3_tipped 6 (some (.array .int)), Cond.methodLink RX3 22 ⟨"[I", "clone", "()Ljava/lang/Object;"⟩, Cond.classLink RX3 13 "[I", Cond.methodLink RL 52 yX2_tip, Cond.instanceMethod yX2_tip]
def wsL_act_r4 : List Cond := [Cond.selects RX2 yX2_tip yX2_tip, Cond.code yX2_tip cX2_tip 3 (some .int), Cond.fieldLink RX2 24 "RingSeesaw" "tipsDone" "I", Cond.methodLink RX2 72 Lib.Math.abs.name, Cond.methodLink RX2 66 yX2_requireTimes, Cond.instanceMethod yX2_requireTimes, Cond.selects RX2 yX2_requireTimes yX2_requireTimes, Cond.code yX2_requireTimes cX2_requireTimes 2 none, Cond.methodLink RX2 69 yX0_tipBy, Cond.instanceMethod yX0_tipBy, Cond.selects RX0 yX0_tipBy yX0_tipBy, Cond.code yX0_tipBy cX0_tipBy 3 none, Cond.methodLink RX0 27 yX0_add, Cond.instanceMethod yX0_add, Cond.selects RX0 yX0_add yX0_add, Cond.code yX0_add cX0_add 3 none, Cond.methodLink RX0 23 yX0_at, Cond.methodLink RX0 30 yX0_onRing, Cond.instanceMethod yX0_onRing, Cond.selects RX0 yX0_onRing yX0_onRing, Cond.code yX0_onRing cX0_onRing 2 (some .int), Cond.methodLink RL 55 yX2_turn, Cond.instanceMethod yX2_turn, Cond.selects RX2 yX2_turn yX2_turn]
def wsL_act_r5 : List Cond := [Cond.code yX2_turn cX2_turn 1 (some .int), Cond.methodLink RX2 77 yX0_rotate, Cond.instanceMethod yX0_rotate, Cond.selects RX0 yX0_rotate yX0_rotate, Cond.code yX0_rotate cX0_rotate 3 none, Cond.methodLink RL 59 yX3_with, Cond.static yX3_with, Cond.code yX3_with cX3_with 4 (some (.array (.array .int))), Cond.methodLink RL 63 yX2_keep, Cond.instanceMethod yX2_keep, Cond.selects RX2 yX2_keep yX2_keep, Cond.code yX2_keep cX2_keep 2 (some .int), Cond.classLink RX2 80 "java/lang/IllegalStateException", Cond.initialized "java/lang/IllegalStateException", Cond.methodLink RX2 85 yX2_keptRing, Cond.instanceMethod yX2_keptRing, Cond.selects RX2 yX2_keptRing yX2_keptRing, Cond.code yX2_keptRing cX2_keptRing 3 (some (.object "RingSeesaw$Ring")), Cond.fieldLink RX2 16 "RingSeesaw" "kept" "[LRingSeesaw$Ring;", Cond.methodLink RX2 89 yX0_copyFrom, Cond.instanceMethod yX0_copyFrom, Cond.selects RX0 yX0_copyFrom yX0_copyFrom, Cond.code yX0_copyFrom cX0_copyFrom 3 none, Cond.methodLink RL 66 yX2_settle]
def wsL_act_r6 : List Cond := [Cond.instanceMethod yX2_settle, Cond.selects RX2 yX2_settle yX2_settle, Cond.code yX2_settle cX2_settle 3 (some .int), Cond.methodLink RX2 95 yX0_settleBy, Cond.instanceMethod yX0_settleBy, Cond.selects RX0 yX0_settleBy yX0_settleBy, Cond.code yX0_settleBy cX0_settleBy 4 (some .int), Cond.methodLink RX0 33 yX0_firstSteep, Cond.instanceMethod yX0_firstSteep, Cond.selects RX0 yX0_firstSteep yX0_firstSteep, Cond.code yX0_firstSteep cX0_firstSteep 2 (some .int), Cond.methodLink RX0 52 yX0_steepAt, Cond.instanceMethod yX0_steepAt, Cond.selects RX0 yX0_steepAt yX0_steepAt, Cond.code yX0_steepAt cX0_steepAt 2 (some .boolean), Cond.methodLink RX0 37 yX0_tipBy, Cond.methodLink RL 69 yX3_settle, Cond.instanceMethod yX3_settle, Cond.selects RX3 yX3_settle yX3_settle, Cond.code yX3_settle cX3_settle 4 (some .int), Cond.fieldLink RX3 7 "RingSeesawLaw$Sim" "ring" "[I", Cond.fieldLink RX3 64 "RingSeesawLaw$Sim" "tips" "I", Cond.methodLink RX3 57 yX3_steep, Cond.instanceMethod yX3_steep]
def wsL_act_r7 : List Cond := [Cond.selects RX3 yX3_steep yX3_steep, Cond.code yX3_steep cX3_steep 3 (some .int), Cond.methodLink RX3 26 yX3_bend, Cond.instanceMethod yX3_bend, Cond.selects RX3 yX3_bend yX3_bend, Cond.code yX3_bend cX3_bend 3 (some .int), Cond.methodLink RX3 18 yX3_at, Cond.instanceMethod yX3_at, Cond.selects RX3 yX3_at yX3_at, Cond.code yX3_at cX3_at 3 (some .int), Cond.methodLink RX3 60 yX3_tipped, Cond.methodLink RL 70 yX3_can, Cond.instanceMethod yX3_can, Cond.selects RX3 yX3_can yX3_can, Cond.code yX3_can cX3_can 3 (some .boolean), Cond.fieldLink RX3 14 "RingSeesawLaw$Sim" "targets" "[[I", Cond.methodLink RX3 42 yX3_sum, Cond.static yX3_sum, Cond.code yX3_sum cX3_sum 6 (some .int), Cond.methodLink RX3 46 yX3_moment, Cond.static yX3_moment, Cond.code yX3_moment cX3_moment 3 (some .int), Cond.methodLink RL 74 yX3_fewest, Cond.instanceMethod yX3_fewest]
def wsL_act_r8 : List Cond := [Cond.selects RX3 yX3_fewest yX3_fewest, Cond.code yX3_fewest cX3_fewest 9 (some .int), Cond.methodLink RX3 53 Lib.Math.abs.name, Cond.methodLink RX3 49 yX3_tipsTo, Cond.instanceMethod yX3_tipsTo, Cond.selects RX3 yX3_tipsTo yX3_tipsTo, Cond.code yX3_tipsTo cX3_tipsTo 7 (some (.array .int)), Cond.methodLink RL 77 yX2_reach, Cond.instanceMethod yX2_reach, Cond.selects RX2 yX2_reach yX2_reach, Cond.code yX2_reach cX2_reach 4 (some .int), Cond.methodLink RX2 98 yX2_requireWayTo, Cond.instanceMethod yX2_requireWayTo, Cond.selects RX2 yX2_requireWayTo yX2_requireWayTo, Cond.code yX2_requireWayTo cX2_requireWayTo 2 none, Cond.methodLink RX2 130 yX0_canBecome, Cond.instanceMethod yX0_canBecome, Cond.selects RX0 yX0_canBecome yX0_canBecome, Cond.code yX0_canBecome cX0_canBecome 2 (some .boolean), Cond.methodLink RX0 56 yX0_total, Cond.instanceMethod yX0_total, Cond.selects RX0 yX0_total yX0_total, Cond.code yX0_total cX0_total 3 (some .int), Cond.methodLink RX0 59 yX0_momentLeft]
def wsL_act_r9 : List Cond := [Cond.instanceMethod yX0_momentLeft, Cond.selects RX0 yX0_momentLeft yX0_momentLeft, Cond.code yX0_momentLeft cX0_momentLeft 3 (some .int), Cond.methodLink RX0 40 yJ9_floorMod_7cf53, Cond.static yJ9_floorMod_7cf53, Cond.initialized RJ9, Cond.code yJ9_floorMod_7cf53 cJ9_floorMod_7cf53 3 (some .int), Cond.methodLink RX2 101 yX2_fewestTo, Cond.instanceMethod yX2_fewestTo, Cond.selects RX2 yX2_fewestTo yX2_fewestTo, Cond.code yX2_fewestTo cX2_fewestTo 2 (some .int), Cond.fieldLink RX2 33 "RingSeesaw" "way" "LRingSeesaw$Way;", Cond.methodLink RX2 134 yX1_find, Cond.instanceMethod yX1_find, Cond.selects RX1 yX1_find yX1_find, Cond.initialized RX1, Cond.code yX1_find cX1_find 6 none, Cond.fieldLink RX1 15 "RingSeesaw$Way" "size" "I", Cond.fieldLink RX1 9 "RingSeesaw$Way" "tips" "[I", Cond.methodLink RX1 19 yX0_size, Cond.methodLink RX1 24 yX1_firstClimb, Cond.instanceMethod yX1_firstClimb, Cond.selects RX1 yX1_firstClimb yX1_firstClimb, Cond.code yX1_firstClimb cX1_firstClimb 5 (some .int)]
def wsL_act_r10 : List Cond := [Cond.methodLink RX1 28 yX0_at, Cond.methodLink RX2 234 yX1_fewest, Cond.instanceMethod yX1_fewest, Cond.selects RX1 yX1_fewest yX1_fewest, Cond.code yX1_fewest cX1_fewest 3 (some .int), Cond.methodLink RX1 38 Lib.Math.min.name, Cond.static Lib.Math.min.name, Cond.code Lib.Math.min.name Lib.Math.min.code 2 (some .int), Cond.methodLink RX1 32 yX1_tipsAt, Cond.instanceMethod yX1_tipsAt, Cond.selects RX1 yX1_tipsAt yX1_tipsAt, Cond.code yX1_tipsAt cX1_tipsAt 2 (some .int), Cond.methodLink RX1 35 yX1_awayFrom, Cond.instanceMethod yX1_awayFrom, Cond.selects RX1 yX1_awayFrom yX1_awayFrom, Cond.code yX1_awayFrom cX1_awayFrom 4 (some .int), Cond.methodLink RX1 44 Lib.Math.abs.name]
def wsL_act : List Cond := .codeWith yL_act cL_act 8 (some .boolean) [(18, 99, 616, 80), (100, 143, 616, 80), (144, 234, 616, 80), (235, 332, 616, 80), (333, 391, 616, 80), (392, 458, 616, 80), (459, 508, 616, 80), (509, 518, 616, 80), (519, 615, 616, 80)] :: ((wsL_act_r1 ++ (wsL_act_r2 ++ (wsL_act_r3 ++ (wsL_act_r4 ++ (wsL_act_r5 ++ (wsL_act_r6 ++ (wsL_act_r7 ++ (wsL_act_r8 ++ (wsL_act_r9 ++ wsL_act_r10))))))))) ++ wsX30 ++ wsX20 ++ wsX00 ++ wsX10 ++ (vx_atS RX2 41 "java/lang/IllegalArgumentException" ["java/lang/RuntimeException", "java/lang/Exception"]).filter goodWord ++ (vx_atS RX2 225 "java/lang/IndexOutOfBoundsException" ["java/lang/RuntimeException", "java/lang/Exception"]).filter goodWord ++ (vx_atS RX2 84 "java/lang/IllegalStateException" ["java/lang/RuntimeException", "java/lang/Exception"]).filter goodWord)
def wsL_build_r1 : List Cond := [Cond.classLink RL 10 RX3, Cond.instantiable RX3 3, Cond.initialized RX3, Cond.arrayClass .int, Cond.fieldLink RL 9 "RingSeesawLaw$Sim" "ring" "[I", Cond.fieldLink RL 22 "RingSeesawLaw$Sim" "targets" "[[I", Cond.methodLink RL 32 ⟨"[I", "clone", "()Ljava/lang/Object;"⟩, Cond.sameMethod "[I" "java/lang/Object" "clone" "()Ljava/lang/Object;", Cond.native ⟨"java/lang/Object", "clone", "()Ljava/lang/Object;"⟩, Cond.instanceMethod ⟨"java/lang/Object", "clone", "()Ljava/lang/Object;"⟩, Cond.selects "[I" ⟨"[I", "clone", "()Ljava/lang/Object;"⟩ ⟨"java/lang/Object", "clone", "()Ljava/lang/Object;"⟩, Cond.classLink RL 21 "[I", Cond.instanceMethod yX3_init, Cond.code yX3_init cX3_init 1 none, Cond.methodLink RX3 1 objectInit, Cond.instanceMethod objectInit, Cond.code objectInit ⟨#[0xb1]⟩ 1 none, Cond.fieldLink RX3 7 "RingSeesawLaw$Sim" "ring" "[I", Cond.classLink RX3 13 "[I", Cond.fieldLink RX3 14 "RingSeesawLaw$Sim" "targets" "[[I", Cond.methodLink RL 83 yL_cell, Cond.static yL_cell, Cond.initialized RL, Cond.code yL_cell cL_cell 2 (some .int)]
def wsL_build_r2 : List Cond := [Cond.constant RL 8 (790386105), Cond.methodLink RL 15 yL_below, Cond.static yL_below, Cond.code yL_below cL_below 2 (some .int), Cond.constant RL 7 (2147483647), Cond.methodLink RL 26 yX2_lay, Cond.instanceMethod yX2_lay, Cond.selects RX2 yX2_lay yX2_lay, Cond.initialized RX2, Cond.code yX2_lay cX2_lay 3 (some .int), Cond.classLink RX2 37 "java/lang/IllegalArgumentException", Cond.initialized "java/lang/IllegalArgumentException", Cond.fieldLink RX2 10 "RingSeesaw" "ring" "LRingSeesaw$Ring;", Cond.fieldLink RX2 20 "RingSeesaw" "keptCount" "I", Cond.methodLink RX2 44 yX0_size, Cond.instanceMethod yX0_size, Cond.selects RX0 yX0_size yX0_size, Cond.initialized RX0, Cond.code yX0_size cX0_size 1 (some .int), Cond.fieldLink RX0 15 "RingSeesaw$Ring" "size" "I", Cond.methodLink RX2 48 yX0_clear, Cond.instanceMethod yX0_clear, Cond.selects RX0 yX0_clear yX0_clear, Cond.code yX0_clear cX0_clear 3 none]
def wsL_build_r3 : List Cond := [Cond.fieldLink RX0 9 "RingSeesaw$Ring" "numbers" "[I", Cond.methodLink RX0 19 yX0_write, Cond.instanceMethod yX0_write, Cond.selects RX0 yX0_write yX0_write, Cond.code yX0_write cX0_write 3 none, Cond.methodLink RL 36 yX2_put, Cond.instanceMethod yX2_put, Cond.selects RX2 yX2_put yX2_put, Cond.code yX2_put cX2_put 4 (some .int), Cond.methodLink RX2 52 yX2_requirePlace, Cond.instanceMethod yX2_requirePlace, Cond.selects RX2 yX2_requirePlace yX2_requirePlace, Cond.code yX2_requirePlace cX2_requirePlace 2 none, Cond.classLink RX2 221 "java/lang/IndexOutOfBoundsException", Cond.initialized "java/lang/IndexOutOfBoundsException", Cond.methodLink RX2 55 yX2_requireNumber, Cond.instanceMethod yX2_requireNumber, Cond.selects RX2 yX2_requireNumber yX2_requireNumber, Cond.code yX2_requireNumber cX2_requireNumber 2 none, Cond.methodLink RX2 58 yX0_at, Cond.instanceMethod yX0_at, Cond.selects RX0 yX0_at yX0_at, Cond.code yX0_at cX0_at 2 (some .int), Cond.methodLink RX2 62 yX0_write]
def wsL_build_r4 : List Cond := [Cond.methodLink RL 59 yX3_with, Cond.static yX3_with, Cond.code yX3_with cX3_with 4 (some (.array (.array .int))), Cond.methodLink RL 63 yX2_keep, Cond.instanceMethod yX2_keep, Cond.selects RX2 yX2_keep yX2_keep, Cond.code yX2_keep cX2_keep 2 (some .int), Cond.classLink RX2 80 "java/lang/IllegalStateException", Cond.initialized "java/lang/IllegalStateException", Cond.methodLink RX2 85 yX2_keptRing, Cond.instanceMethod yX2_keptRing, Cond.selects RX2 yX2_keptRing yX2_keptRing, Cond.code yX2_keptRing cX2_keptRing 3 (some (.object "RingSeesaw$Ring")), Cond.fieldLink RX2 16 "RingSeesaw" "kept" "[LRingSeesaw$Ring;", Cond.methodLink RX2 89 yX0_copyFrom, Cond.instanceMethod yX0_copyFrom, Cond.selects RX0 yX0_copyFrom yX0_copyFrom, Cond.code yX0_copyFrom cX0_copyFrom 3 none, Cond.methodLink RX0 23 yX0_at, Cond.methodLink RL 87 yL_act, Cond.static yL_act, Cond.codeWith yL_act cL_act 8 (some .boolean) [(18, 99, 616, 80), (100, 143, 616, 80), (144, 234, 616, 80), (235, 332, 616, 80), (333, 391, 616, 80), (392, 458, 616, 80), (459, 508, 616, 80), (509, 518, 616, 80), (519, 615, 616, 80)], Cond.classLink RL 80 "java/lang/IllegalStateException", Cond.fieldLink RL 43 "RingSeesawLaw$Sim" "tips" "I"]
def wsL_build_r5 : List Cond := [Cond.methodLink RL 47 Lib.Math.abs.name, Cond.static Lib.Math.abs.name, Cond.initialized "java/lang/Math", Cond.code Lib.Math.abs.name Lib.Math.abs.code 1 (some .int), Cond.methodLink RL 39 yX3_tipped, Cond.instanceMethod yX3_tipped, Cond.selects RX3 yX3_tipped yX3_tipped, Cond.code yX3_tipped cX3_tipped 6 (some (.array .int)), Cond.methodLink RX3 22 ⟨"[I", "clone", "()Ljava/lang/Object;"⟩, Cond.methodLink RL 52 yX2_tip, Cond.instanceMethod yX2_tip, Cond.selects RX2 yX2_tip yX2_tip, Cond.code yX2_tip cX2_tip 3 (some .int), Cond.fieldLink RX2 24 "RingSeesaw" "tipsDone" "I", Cond.methodLink RX2 72 Lib.Math.abs.name, Cond.methodLink RX2 66 yX2_requireTimes, Cond.instanceMethod yX2_requireTimes, Cond.selects RX2 yX2_requireTimes yX2_requireTimes, Cond.code yX2_requireTimes cX2_requireTimes 2 none, Cond.methodLink RX2 69 yX0_tipBy, Cond.instanceMethod yX0_tipBy, Cond.selects RX0 yX0_tipBy yX0_tipBy, Cond.code yX0_tipBy cX0_tipBy 3 none, Cond.methodLink RX0 27 yX0_add]
def wsL_build_r6 : List Cond := [Cond.instanceMethod yX0_add, Cond.selects RX0 yX0_add yX0_add, Cond.code yX0_add cX0_add 3 none, Cond.methodLink RX0 30 yX0_onRing, Cond.instanceMethod yX0_onRing, Cond.selects RX0 yX0_onRing yX0_onRing, Cond.code yX0_onRing cX0_onRing 2 (some .int), Cond.methodLink RL 55 yX2_turn, Cond.instanceMethod yX2_turn, Cond.selects RX2 yX2_turn yX2_turn, Cond.code yX2_turn cX2_turn 1 (some .int), Cond.methodLink RX2 77 yX0_rotate, Cond.instanceMethod yX0_rotate, Cond.selects RX0 yX0_rotate yX0_rotate, Cond.code yX0_rotate cX0_rotate 3 none, Cond.methodLink RL 66 yX2_settle, Cond.instanceMethod yX2_settle, Cond.selects RX2 yX2_settle yX2_settle, Cond.code yX2_settle cX2_settle 3 (some .int), Cond.methodLink RX2 95 yX0_settleBy, Cond.instanceMethod yX0_settleBy, Cond.selects RX0 yX0_settleBy yX0_settleBy, Cond.code yX0_settleBy cX0_settleBy 4 (some .int), Cond.methodLink RX0 33 yX0_firstSteep]
def wsL_build_r7 : List Cond := [Cond.instanceMethod yX0_firstSteep, Cond.selects RX0 yX0_firstSteep yX0_firstSteep, Cond.code yX0_firstSteep cX0_firstSteep 2 (some .int), Cond.methodLink RX0 52 yX0_steepAt, Cond.instanceMethod yX0_steepAt, Cond.selects RX0 yX0_steepAt yX0_steepAt, Cond.code yX0_steepAt cX0_steepAt 2 (some .boolean), Cond.methodLink RX0 37 yX0_tipBy, Cond.methodLink RL 69 yX3_settle, Cond.instanceMethod yX3_settle, Cond.selects RX3 yX3_settle yX3_settle, Cond.code yX3_settle cX3_settle 4 (some .int), Cond.fieldLink RX3 64 "RingSeesawLaw$Sim" "tips" "I", Cond.methodLink RX3 57 yX3_steep, Cond.instanceMethod yX3_steep, Cond.selects RX3 yX3_steep yX3_steep, Cond.code yX3_steep cX3_steep 3 (some .int), Cond.methodLink RX3 26 yX3_bend, Cond.instanceMethod yX3_bend, Cond.selects RX3 yX3_bend yX3_bend, Cond.code yX3_bend cX3_bend 3 (some .int), Cond.methodLink RX3 18 yX3_at, Cond.instanceMethod yX3_at, Cond.selects RX3 yX3_at yX3_at]
def wsL_build_r8 : List Cond := [Cond.code yX3_at cX3_at 3 (some .int), Cond.methodLink RX3 60 yX3_tipped, Cond.methodLink RL 70 yX3_can, Cond.instanceMethod yX3_can, Cond.selects RX3 yX3_can yX3_can, Cond.code yX3_can cX3_can 3 (some .boolean), Cond.methodLink RX3 42 yX3_sum, Cond.static yX3_sum, Cond.code yX3_sum cX3_sum 6 (some .int), Cond.methodLink RX3 46 yX3_moment, Cond.static yX3_moment, Cond.code yX3_moment cX3_moment 3 (some .int), Cond.methodLink RL 74 yX3_fewest, Cond.instanceMethod yX3_fewest, Cond.selects RX3 yX3_fewest yX3_fewest, Cond.code yX3_fewest cX3_fewest 9 (some .int), Cond.methodLink RX3 53 Lib.Math.abs.name, Cond.methodLink RX3 49 yX3_tipsTo, Cond.instanceMethod yX3_tipsTo, Cond.selects RX3 yX3_tipsTo yX3_tipsTo, Cond.code yX3_tipsTo cX3_tipsTo 7 (some (.array .int)), Cond.methodLink RL 77 yX2_reach, Cond.instanceMethod yX2_reach, Cond.selects RX2 yX2_reach yX2_reach]
def wsL_build_r9 : List Cond := [Cond.code yX2_reach cX2_reach 4 (some .int), Cond.methodLink RX2 98 yX2_requireWayTo, Cond.instanceMethod yX2_requireWayTo, Cond.selects RX2 yX2_requireWayTo yX2_requireWayTo, Cond.code yX2_requireWayTo cX2_requireWayTo 2 none, Cond.methodLink RX2 130 yX0_canBecome, Cond.instanceMethod yX0_canBecome, Cond.selects RX0 yX0_canBecome yX0_canBecome, Cond.code yX0_canBecome cX0_canBecome 2 (some .boolean), Cond.methodLink RX0 56 yX0_total, Cond.instanceMethod yX0_total, Cond.selects RX0 yX0_total yX0_total, Cond.code yX0_total cX0_total 3 (some .int), Cond.methodLink RX0 59 yX0_momentLeft, Cond.instanceMethod yX0_momentLeft, Cond.selects RX0 yX0_momentLeft yX0_momentLeft, Cond.code yX0_momentLeft cX0_momentLeft 3 (some .int), Cond.methodLink RX0 40 yJ9_floorMod_7cf53, Cond.static yJ9_floorMod_7cf53, Cond.initialized RJ9, Cond.code yJ9_floorMod_7cf53 cJ9_floorMod_7cf53 3 (some .int), Cond.methodLink RX2 101 yX2_fewestTo, Cond.instanceMethod yX2_fewestTo, Cond.selects RX2 yX2_fewestTo yX2_fewestTo]
def wsL_build_r10 : List Cond := [Cond.code yX2_fewestTo cX2_fewestTo 2 (some .int), Cond.fieldLink RX2 33 "RingSeesaw" "way" "LRingSeesaw$Way;", Cond.methodLink RX2 134 yX1_find, Cond.instanceMethod yX1_find, Cond.selects RX1 yX1_find yX1_find, Cond.initialized RX1, Cond.code yX1_find cX1_find 6 none, Cond.fieldLink RX1 15 "RingSeesaw$Way" "size" "I", Cond.fieldLink RX1 9 "RingSeesaw$Way" "tips" "[I", Cond.methodLink RX1 19 yX0_size, Cond.methodLink RX1 24 yX1_firstClimb, Cond.instanceMethod yX1_firstClimb, Cond.selects RX1 yX1_firstClimb yX1_firstClimb, Cond.code yX1_firstClimb cX1_firstClimb 5 (some .int), Cond.methodLink RX1 28 yX0_at, Cond.methodLink RX2 234 yX1_fewest, Cond.instanceMethod yX1_fewest, Cond.selects RX1 yX1_fewest yX1_fewest, Cond.code yX1_fewest cX1_fewest 3 (some .int), Cond.methodLink RX1 38 Lib.Math.min.name, Cond.static Lib.Math.min.name, Cond.code Lib.Math.min.name Lib.Math.min.code 2 (some .int), Cond.methodLink RX1 32 yX1_tipsAt, Cond.instanceMethod yX1_tipsAt]
def wsL_build_r11 : List Cond := [Cond.selects RX1 yX1_tipsAt yX1_tipsAt, Cond.code yX1_tipsAt cX1_tipsAt 2 (some .int), Cond.methodLink RX1 35 yX1_awayFrom, Cond.instanceMethod yX1_awayFrom, Cond.selects RX1 yX1_awayFrom yX1_awayFrom, Cond.code yX1_awayFrom cX1_awayFrom 4 (some .int), Cond.methodLink RX1 44 Lib.Math.abs.name]
def wsL_build : List Cond := .code yL_build cL_build 5 (some (.object "RingSeesawLaw$Sim")) :: ((wsL_build_r1 ++ (wsL_build_r2 ++ (wsL_build_r3 ++ (wsL_build_r4 ++ (wsL_build_r5 ++ (wsL_build_r6 ++ (wsL_build_r7 ++ (wsL_build_r8 ++ (wsL_build_r9 ++ (wsL_build_r10 ++ wsL_build_r11)))))))))) ++ wsX30 ++ wsX20 ++ wsX00 ++ wsX10 ++ (vx_atS RX2 41 "java/lang/IllegalArgumentException" ["java/lang/RuntimeException", "java/lang/Exception"]).filter goodWord ++ (vx_atS RX2 225 "java/lang/IndexOutOfBoundsException" ["java/lang/RuntimeException", "java/lang/Exception"]).filter goodWord ++ (vx_atS RX2 84 "java/lang/IllegalStateException" ["java/lang/RuntimeException", "java/lang/Exception"]).filter goodWord)
def wsL_law0_r1 : List Cond := [Cond.classLink RL 27 RX2, Cond.instantiable RX2 6, Cond.initialized RX2, Cond.methodLink RL 47 Lib.Math.abs.name, Cond.static Lib.Math.abs.name, Cond.initialized "java/lang/Math", Cond.code Lib.Math.abs.name Lib.Math.abs.code 1 (some .int), Cond.arrayClass .boolean, Cond.fieldLink RL 9 "RingSeesawLaw$Sim" "ring" "[I", Cond.constant RL 7 (2147483647), Cond.methodLink RL 153 Lib.Math.min.name, Cond.static Lib.Math.min.name, Cond.code Lib.Math.min.name Lib.Math.min.code 2 (some .int), Cond.methodLink RL 32 ⟨"[I", "clone", "()Ljava/lang/Object;"⟩, Cond.sameMethod "[I" "java/lang/Object" "clone" "()Ljava/lang/Object;", Cond.native ⟨"java/lang/Object", "clone", "()Ljava/lang/Object;"⟩, Cond.instanceMethod ⟨"java/lang/Object", "clone", "()Ljava/lang/Object;"⟩, Cond.selects "[I" ⟨"[I", "clone", "()Ljava/lang/Object;"⟩ ⟨"java/lang/Object", "clone", "()Ljava/lang/Object;"⟩, Cond.classLink RL 21 "[I", Cond.fieldLink RL 43 "RingSeesawLaw$Sim" "tips" "I", Cond.methodLink RL 91 yX2_init, Cond.instanceMethod yX2_init, Cond.code yX2_init cX2_init 2 none, Cond.methodLink RX2 1 objectInit]
def wsL_law0_r2 : List Cond := [Cond.instanceMethod objectInit, Cond.code objectInit ⟨#[0xb1]⟩ 1 none, Cond.classLink RX2 7 RX0, Cond.instantiable RX0 2, Cond.initialized RX0, Cond.fieldLink RX2 10 "RingSeesaw" "ring" "LRingSeesaw$Ring;", Cond.fieldLink RX2 16 "RingSeesaw" "kept" "[LRingSeesaw$Ring;", Cond.fieldLink RX2 20 "RingSeesaw" "keptCount" "I", Cond.fieldLink RX2 24 "RingSeesaw" "tipsDone" "I", Cond.fieldLink RX2 27 "RingSeesaw" "trial" "LRingSeesaw$Ring;", Cond.classLink RX2 30 RX1, Cond.instantiable RX1 2, Cond.initialized RX1, Cond.fieldLink RX2 33 "RingSeesaw" "way" "LRingSeesaw$Way;", Cond.instanceMethod yX0_init, Cond.code yX0_init cX0_init 1 none, Cond.methodLink RX0 3 objectInit, Cond.arrayClass .int, Cond.fieldLink RX0 9 "RingSeesaw$Ring" "numbers" "[I", Cond.fieldLink RX0 15 "RingSeesaw$Ring" "size" "I", Cond.instanceMethod yX1_init, Cond.code yX1_init cX1_init 1 none, Cond.methodLink RX1 3 objectInit, Cond.fieldLink RX1 9 "RingSeesaw$Way" "tips" "[I"]
def wsL_law0_r3 : List Cond := [Cond.fieldLink RX1 15 "RingSeesaw$Way" "size" "I", Cond.methodLink RL 92 yL_build, Cond.static yL_build, Cond.initialized RL, Cond.code yL_build cL_build 5 (some (.object "RingSeesawLaw$Sim")), Cond.classLink RL 10 RX3, Cond.instantiable RX3 3, Cond.initialized RX3, Cond.fieldLink RL 22 "RingSeesawLaw$Sim" "targets" "[[I", Cond.instanceMethod yX3_init, Cond.code yX3_init cX3_init 1 none, Cond.methodLink RX3 1 objectInit, Cond.fieldLink RX3 7 "RingSeesawLaw$Sim" "ring" "[I", Cond.classLink RX3 13 "[I", Cond.fieldLink RX3 14 "RingSeesawLaw$Sim" "targets" "[[I", Cond.methodLink RL 83 yL_cell, Cond.static yL_cell, Cond.code yL_cell cL_cell 2 (some .int), Cond.constant RL 8 (790386105), Cond.methodLink RL 15 yL_below, Cond.static yL_below, Cond.code yL_below cL_below 2 (some .int), Cond.methodLink RL 26 yX2_lay, Cond.instanceMethod yX2_lay]
def wsL_law0_r4 : List Cond := [Cond.selects RX2 yX2_lay yX2_lay, Cond.code yX2_lay cX2_lay 3 (some .int), Cond.classLink RX2 37 "java/lang/IllegalArgumentException", Cond.initialized "java/lang/IllegalArgumentException", Cond.methodLink RX2 44 yX0_size, Cond.instanceMethod yX0_size, Cond.selects RX0 yX0_size yX0_size, Cond.code yX0_size cX0_size 1 (some .int), Cond.methodLink RX2 48 yX0_clear, Cond.instanceMethod yX0_clear, Cond.selects RX0 yX0_clear yX0_clear, Cond.code yX0_clear cX0_clear 3 none, Cond.methodLink RX0 19 yX0_write, Cond.instanceMethod yX0_write, Cond.selects RX0 yX0_write yX0_write, Cond.code yX0_write cX0_write 3 none, Cond.methodLink RL 36 yX2_put, Cond.instanceMethod yX2_put, Cond.selects RX2 yX2_put yX2_put, Cond.code yX2_put cX2_put 4 (some .int), Cond.methodLink RX2 52 yX2_requirePlace, Cond.instanceMethod yX2_requirePlace, Cond.selects RX2 yX2_requirePlace yX2_requirePlace, Cond.code yX2_requirePlace cX2_requirePlace 2 none]
def wsL_law0_r5 : List Cond := [Cond.classLink RX2 221 "java/lang/IndexOutOfBoundsException", Cond.initialized "java/lang/IndexOutOfBoundsException", Cond.methodLink RX2 55 yX2_requireNumber, Cond.instanceMethod yX2_requireNumber, Cond.selects RX2 yX2_requireNumber yX2_requireNumber, Cond.code yX2_requireNumber cX2_requireNumber 2 none, Cond.methodLink RX2 58 yX0_at, Cond.instanceMethod yX0_at, Cond.selects RX0 yX0_at yX0_at, Cond.code yX0_at cX0_at 2 (some .int), Cond.methodLink RX2 62 yX0_write, Cond.methodLink RL 59 yX3_with, Cond.static yX3_with, Cond.code yX3_with cX3_with 4 (some (.array (.array .int))), Cond.methodLink RL 63 yX2_keep, Cond.instanceMethod yX2_keep, Cond.selects RX2 yX2_keep yX2_keep, Cond.code yX2_keep cX2_keep 2 (some .int), Cond.classLink RX2 80 "java/lang/IllegalStateException", Cond.initialized "java/lang/IllegalStateException", Cond.methodLink RX2 85 yX2_keptRing, Cond.instanceMethod yX2_keptRing, Cond.selects RX2 yX2_keptRing yX2_keptRing, Cond.code yX2_keptRing cX2_keptRing 3 (some (.object "RingSeesaw$Ring"))]
def wsL_law0_r6 : List Cond := [Cond.methodLink RX2 89 yX0_copyFrom, Cond.instanceMethod yX0_copyFrom, Cond.selects RX0 yX0_copyFrom yX0_copyFrom, Cond.code yX0_copyFrom cX0_copyFrom 3 none, Cond.methodLink RX0 23 yX0_at, Cond.methodLink RL 87 yL_act, Cond.static yL_act, Cond.codeWith yL_act cL_act 8 (some .boolean) [(18, 99, 616, 80), (100, 143, 616, 80), (144, 234, 616, 80), (235, 332, 616, 80), (333, 391, 616, 80), (392, 458, 616, 80), (459, 508, 616, 80), (509, 518, 616, 80), (519, 615, 616, 80)], Cond.classLink RL 80 "java/lang/IllegalStateException", Cond.methodLink RL 39 yX3_tipped, Cond.instanceMethod yX3_tipped, Cond.selects RX3 yX3_tipped yX3_tipped, Cond.code yX3_tipped cX3_tipped 6 (some (.array .int)), Cond.methodLink RX3 22 ⟨"[I", "clone", "()Ljava/lang/Object;"⟩, Cond.methodLink RL 52 yX2_tip, Cond.instanceMethod yX2_tip, Cond.selects RX2 yX2_tip yX2_tip, Cond.code yX2_tip cX2_tip 3 (some .int), Cond.methodLink RX2 72 Lib.Math.abs.name, Cond.methodLink RX2 66 yX2_requireTimes, Cond.instanceMethod yX2_requireTimes, Cond.selects RX2 yX2_requireTimes yX2_requireTimes, Cond.code yX2_requireTimes cX2_requireTimes 2 none, Cond.methodLink RX2 69 yX0_tipBy]
def wsL_law0_r7 : List Cond := [Cond.instanceMethod yX0_tipBy, Cond.selects RX0 yX0_tipBy yX0_tipBy, Cond.code yX0_tipBy cX0_tipBy 3 none, Cond.methodLink RX0 27 yX0_add, Cond.instanceMethod yX0_add, Cond.selects RX0 yX0_add yX0_add, Cond.code yX0_add cX0_add 3 none, Cond.methodLink RX0 30 yX0_onRing, Cond.instanceMethod yX0_onRing, Cond.selects RX0 yX0_onRing yX0_onRing, Cond.code yX0_onRing cX0_onRing 2 (some .int), Cond.methodLink RL 55 yX2_turn, Cond.instanceMethod yX2_turn, Cond.selects RX2 yX2_turn yX2_turn, Cond.code yX2_turn cX2_turn 1 (some .int), Cond.methodLink RX2 77 yX0_rotate, Cond.instanceMethod yX0_rotate, Cond.selects RX0 yX0_rotate yX0_rotate, Cond.code yX0_rotate cX0_rotate 3 none, Cond.methodLink RL 66 yX2_settle, Cond.instanceMethod yX2_settle, Cond.selects RX2 yX2_settle yX2_settle, Cond.code yX2_settle cX2_settle 3 (some .int), Cond.methodLink RX2 95 yX0_settleBy]
def wsL_law0_r8 : List Cond := [Cond.instanceMethod yX0_settleBy, Cond.selects RX0 yX0_settleBy yX0_settleBy, Cond.code yX0_settleBy cX0_settleBy 4 (some .int), Cond.methodLink RX0 33 yX0_firstSteep, Cond.instanceMethod yX0_firstSteep, Cond.selects RX0 yX0_firstSteep yX0_firstSteep, Cond.code yX0_firstSteep cX0_firstSteep 2 (some .int), Cond.methodLink RX0 52 yX0_steepAt, Cond.instanceMethod yX0_steepAt, Cond.selects RX0 yX0_steepAt yX0_steepAt, Cond.code yX0_steepAt cX0_steepAt 2 (some .boolean), Cond.methodLink RX0 37 yX0_tipBy, Cond.methodLink RL 69 yX3_settle, Cond.instanceMethod yX3_settle, Cond.selects RX3 yX3_settle yX3_settle, Cond.code yX3_settle cX3_settle 4 (some .int), Cond.fieldLink RX3 64 "RingSeesawLaw$Sim" "tips" "I", Cond.methodLink RX3 57 yX3_steep, Cond.instanceMethod yX3_steep, Cond.selects RX3 yX3_steep yX3_steep, Cond.code yX3_steep cX3_steep 3 (some .int), Cond.methodLink RX3 26 yX3_bend, Cond.instanceMethod yX3_bend, Cond.selects RX3 yX3_bend yX3_bend]
def wsL_law0_r9 : List Cond := [Cond.code yX3_bend cX3_bend 3 (some .int), Cond.methodLink RX3 18 yX3_at, Cond.instanceMethod yX3_at, Cond.selects RX3 yX3_at yX3_at, Cond.code yX3_at cX3_at 3 (some .int), Cond.methodLink RX3 60 yX3_tipped, Cond.methodLink RL 70 yX3_can, Cond.instanceMethod yX3_can, Cond.selects RX3 yX3_can yX3_can, Cond.code yX3_can cX3_can 3 (some .boolean), Cond.methodLink RX3 42 yX3_sum, Cond.static yX3_sum, Cond.code yX3_sum cX3_sum 6 (some .int), Cond.methodLink RX3 46 yX3_moment, Cond.static yX3_moment, Cond.code yX3_moment cX3_moment 3 (some .int), Cond.methodLink RL 74 yX3_fewest, Cond.instanceMethod yX3_fewest, Cond.selects RX3 yX3_fewest yX3_fewest, Cond.code yX3_fewest cX3_fewest 9 (some .int), Cond.methodLink RX3 53 Lib.Math.abs.name, Cond.methodLink RX3 49 yX3_tipsTo, Cond.instanceMethod yX3_tipsTo, Cond.selects RX3 yX3_tipsTo yX3_tipsTo]
def wsL_law0_r10 : List Cond := [Cond.code yX3_tipsTo cX3_tipsTo 7 (some (.array .int)), Cond.methodLink RL 77 yX2_reach, Cond.instanceMethod yX2_reach, Cond.selects RX2 yX2_reach yX2_reach, Cond.code yX2_reach cX2_reach 4 (some .int), Cond.methodLink RX2 98 yX2_requireWayTo, Cond.instanceMethod yX2_requireWayTo, Cond.selects RX2 yX2_requireWayTo yX2_requireWayTo, Cond.code yX2_requireWayTo cX2_requireWayTo 2 none, Cond.methodLink RX2 130 yX0_canBecome, Cond.instanceMethod yX0_canBecome, Cond.selects RX0 yX0_canBecome yX0_canBecome, Cond.code yX0_canBecome cX0_canBecome 2 (some .boolean), Cond.methodLink RX0 56 yX0_total, Cond.instanceMethod yX0_total, Cond.selects RX0 yX0_total yX0_total, Cond.code yX0_total cX0_total 3 (some .int), Cond.methodLink RX0 59 yX0_momentLeft, Cond.instanceMethod yX0_momentLeft, Cond.selects RX0 yX0_momentLeft yX0_momentLeft, Cond.code yX0_momentLeft cX0_momentLeft 3 (some .int), Cond.methodLink RX0 40 yJ9_floorMod_7cf53, Cond.static yJ9_floorMod_7cf53, Cond.initialized RJ9]
def wsL_law0_r11 : List Cond := [Cond.code yJ9_floorMod_7cf53 cJ9_floorMod_7cf53 3 (some .int), Cond.methodLink RX2 101 yX2_fewestTo, Cond.instanceMethod yX2_fewestTo, Cond.selects RX2 yX2_fewestTo yX2_fewestTo, Cond.code yX2_fewestTo cX2_fewestTo 2 (some .int), Cond.methodLink RX2 134 yX1_find, Cond.instanceMethod yX1_find, Cond.selects RX1 yX1_find yX1_find, Cond.code yX1_find cX1_find 6 none, Cond.methodLink RX1 19 yX0_size, Cond.methodLink RX1 24 yX1_firstClimb, Cond.instanceMethod yX1_firstClimb, Cond.selects RX1 yX1_firstClimb yX1_firstClimb, Cond.code yX1_firstClimb cX1_firstClimb 5 (some .int), Cond.methodLink RX1 28 yX0_at, Cond.methodLink RX2 234 yX1_fewest, Cond.instanceMethod yX1_fewest, Cond.selects RX1 yX1_fewest yX1_fewest, Cond.code yX1_fewest cX1_fewest 3 (some .int), Cond.methodLink RX1 38 Lib.Math.min.name, Cond.methodLink RX1 32 yX1_tipsAt, Cond.instanceMethod yX1_tipsAt, Cond.selects RX1 yX1_tipsAt yX1_tipsAt, Cond.code yX1_tipsAt cX1_tipsAt 2 (some .int)]
def wsL_law0_r12 : List Cond := [Cond.methodLink RX1 35 yX1_awayFrom, Cond.instanceMethod yX1_awayFrom, Cond.selects RX1 yX1_awayFrom yX1_awayFrom, Cond.code yX1_awayFrom cX1_awayFrom 4 (some .int), Cond.methodLink RX1 44 Lib.Math.abs.name, Cond.methodLink RL 96 yX2_digest, Cond.instanceMethod yX2_digest, Cond.selects RX2 yX2_digest yX2_digest, Cond.code yX2_digest cX2_digest 3 (some .long), Cond.constantLong RX2 155 (2333), Cond.methodLink RX2 157 yX2_places, Cond.instanceMethod yX2_places, Cond.selects RX2 yX2_places yX2_places, Cond.code yX2_places cX2_places 1 (some .int), Cond.methodLink RX2 160 yX2_mixed, Cond.static yX2_mixed, Cond.code yX2_mixed cX2_mixed 4 (some .long), Cond.constantLong RX2 219 (31), Cond.methodLink RX2 164 yX2_targets, Cond.instanceMethod yX2_targets, Cond.selects RX2 yX2_targets yX2_targets, Cond.code yX2_targets cX2_targets 1 (some .int), Cond.methodLink RX2 167 yX2_tips, Cond.instanceMethod yX2_tips]
def wsL_law0_r13 : List Cond := [Cond.selects RX2 yX2_tips yX2_tips, Cond.code yX2_tips cX2_tips 1 (some .int), Cond.methodLink RX2 170 yX2_sum, Cond.instanceMethod yX2_sum, Cond.selects RX2 yX2_sum yX2_sum, Cond.code yX2_sum cX2_sum 1 (some .int), Cond.methodLink RX2 105 yX0_total, Cond.methodLink RX2 173 yX2_moment, Cond.instanceMethod yX2_moment, Cond.selects RX2 yX2_moment yX2_moment, Cond.code yX2_moment cX2_moment 1 (some .int), Cond.methodLink RX2 108 yX0_momentLeft, Cond.methodLink RX2 176 yX2_spread, Cond.instanceMethod yX2_spread, Cond.selects RX2 yX2_spread yX2_spread, Cond.code yX2_spread cX2_spread 1 (some .int), Cond.methodLink RX2 111 yX0_span, Cond.instanceMethod yX0_span, Cond.selects RX0 yX0_span yX0_span, Cond.code yX0_span cX0_span 3 (some .int), Cond.methodLink RX0 46 Lib.Math.min.name, Cond.methodLink RX0 49 yX0_firstGreatest, Cond.instanceMethod yX0_firstGreatest, Cond.selects RX0 yX0_firstGreatest yX0_firstGreatest]
def wsL_law0_r14 : List Cond := [Cond.code yX0_firstGreatest cX0_firstGreatest 3 (some .int), Cond.methodLink RX2 179 yX2_highest, Cond.instanceMethod yX2_highest, Cond.selects RX2 yX2_highest yX2_highest, Cond.code yX2_highest cX2_highest 1 (some .int), Cond.methodLink RX2 114 yX0_firstGreatest, Cond.methodLink RX2 182 yX2_steepPlaces, Cond.instanceMethod yX2_steepPlaces, Cond.selects RX2 yX2_steepPlaces yX2_steepPlaces, Cond.code yX2_steepPlaces cX2_steepPlaces 3 (some .int), Cond.methodLink RX2 117 yX0_steepAt, Cond.methodLink RX2 185 yX2_nextToTip, Cond.instanceMethod yX2_nextToTip, Cond.selects RX2 yX2_nextToTip yX2_nextToTip, Cond.code yX2_nextToTip cX2_nextToTip 1 (some .int), Cond.methodLink RX2 121 yX0_firstSteep, Cond.methodLink RX2 188 yX2_levelAxes, Cond.instanceMethod yX2_levelAxes, Cond.selects RX2 yX2_levelAxes yX2_levelAxes, Cond.code yX2_levelAxes cX2_levelAxes 3 (some .int), Cond.methodLink RX2 124 yX0_tiltOn, Cond.instanceMethod yX0_tiltOn, Cond.selects RX0 yX0_tiltOn yX0_tiltOn, Cond.code yX0_tiltOn cX0_tiltOn 4 (some .int)]
def wsL_law0_r15 : List Cond := [Cond.methodLink RX2 191 yX2_bestAxis, Cond.instanceMethod yX2_bestAxis, Cond.selects RX2 yX2_bestAxis yX2_bestAxis, Cond.code yX2_bestAxis cX2_bestAxis 3 (some .int), Cond.methodLink RX2 194 yX2_reachable, Cond.instanceMethod yX2_reachable, Cond.selects RX2 yX2_reachable yX2_reachable, Cond.code yX2_reachable cX2_reachable 3 (some .int), Cond.methodLink RX2 197 yX2_nearestTarget, Cond.instanceMethod yX2_nearestTarget, Cond.selects RX2 yX2_nearestTarget yX2_nearestTarget, Cond.code yX2_nearestTarget cX2_nearestTarget 5 (some .int), Cond.methodLink RX2 200 yX2_stepsToRest, Cond.instanceMethod yX2_stepsToRest, Cond.selects RX2 yX2_stepsToRest yX2_stepsToRest, Cond.code yX2_stepsToRest cX2_stepsToRest 1 (some .int), Cond.methodLink RX2 141 yX2_tryToRest, Cond.instanceMethod yX2_tryToRest, Cond.selects RX2 yX2_tryToRest yX2_tryToRest, Cond.code yX2_tryToRest cX2_tryToRest 2 (some .int), Cond.methodLink RX2 203 yX2_spreadAtRest, Cond.instanceMethod yX2_spreadAtRest, Cond.selects RX2 yX2_spreadAtRest yX2_spreadAtRest, Cond.code yX2_spreadAtRest cX2_spreadAtRest 1 (some .int)]
def wsL_law0_r16 : List Cond := [Cond.methodLink RX2 206 yX2_bestPlace, Cond.instanceMethod yX2_bestPlace, Cond.selects RX2 yX2_bestPlace yX2_bestPlace, Cond.code yX2_bestPlace cX2_bestPlace 5 (some .int), Cond.methodLink RX2 148 Lib.Math.min.name, Cond.methodLink RX2 144 yX2_spanAfter, Cond.instanceMethod yX2_spanAfter, Cond.selects RX2 yX2_spanAfter yX2_spanAfter, Cond.code yX2_spanAfter cX2_spanAfter 3 (some .int), Cond.methodLink RX2 209 yX2_placeFor, Cond.instanceMethod yX2_placeFor, Cond.selects RX2 yX2_placeFor yX2_placeFor, Cond.code yX2_placeFor cX2_placeFor 2 (some .int), Cond.methodLink RX2 151 yX2_firstPlaceFor, Cond.instanceMethod yX2_firstPlaceFor, Cond.selects RX2 yX2_firstPlaceFor yX2_firstPlaceFor, Cond.code yX2_firstPlaceFor cX2_firstPlaceFor 4 (some .int), Cond.methodLink RX2 212 yX2_mixedWithPlaces, Cond.instanceMethod yX2_mixedWithPlaces, Cond.selects RX2 yX2_mixedWithPlaces yX2_mixedWithPlaces, Cond.code yX2_mixedWithPlaces cX2_mixedWithPlaces 6 (some .long), Cond.methodLink RX2 216 yX2_mixedWithTargets, Cond.instanceMethod yX2_mixedWithTargets, Cond.selects RX2 yX2_mixedWithTargets yX2_mixedWithTargets]
def wsL_law0_r17 : List Cond := [Cond.code yX2_mixedWithTargets cX2_mixedWithTargets 7 (some .long), Cond.methodLink RX2 127 yX0_differencesFrom, Cond.instanceMethod yX0_differencesFrom, Cond.selects RX0 yX0_differencesFrom yX0_differencesFrom, Cond.code yX0_differencesFrom cX0_differencesFrom 4 (some .int), Cond.methodLink RL 100 yX2_places, Cond.methodLink RL 103 yX2_targets, Cond.methodLink RL 105 yX2_tilt, Cond.instanceMethod yX2_tilt, Cond.selects RX2 yX2_tilt yX2_tilt, Cond.code yX2_tilt cX2_tilt 2 (some .int), Cond.methodLink RL 108 yX2_isSteep, Cond.instanceMethod yX2_isSteep, Cond.selects RX2 yX2_isSteep yX2_isSteep, Cond.code yX2_isSteep cX2_isSteep 2 (some .boolean), Cond.methodLink RL 112 yX2_bestAxis, Cond.methodLink RL 115 yX2_numberAt, Cond.instanceMethod yX2_numberAt, Cond.selects RX2 yX2_numberAt yX2_numberAt, Cond.code yX2_numberAt cX2_numberAt 2 (some .int), Cond.methodLink RL 118 yX2_highest, Cond.methodLink RL 121 yX2_spread, Cond.methodLink RL 124 yX2_nextToTip, Cond.methodLink RL 127 yX2_levelAxes]
def wsL_law0_r18 : List Cond := [Cond.methodLink RL 130 yX2_steepPlaces, Cond.methodLink RL 133 yX2_stepsToRest, Cond.methodLink RL 136 yX2_canReach, Cond.instanceMethod yX2_canReach, Cond.selects RX2 yX2_canReach yX2_canReach, Cond.code yX2_canReach cX2_canReach 2 (some .boolean), Cond.methodLink RL 139 yX2_differences, Cond.instanceMethod yX2_differences, Cond.selects RX2 yX2_differences yX2_differences, Cond.code yX2_differences cX2_differences 2 (some .int), Cond.methodLink RL 142 yX2_fewestTips, Cond.instanceMethod yX2_fewestTips, Cond.selects RX2 yX2_fewestTips yX2_fewestTips, Cond.code yX2_fewestTips cX2_fewestTips 2 (some .int), Cond.methodLink RL 145 yX2_nearestTarget, Cond.methodLink RL 150 yX2_tipsTo, Cond.instanceMethod yX2_tipsTo, Cond.selects RX2 yX2_tipsTo yX2_tipsTo, Cond.code yX2_tipsTo cX2_tipsTo 4 (some .int), Cond.methodLink RX2 138 yX1_tipsAt, Cond.methodLink RL 156 yX2_numberIn, Cond.instanceMethod yX2_numberIn, Cond.selects RX2 yX2_numberIn yX2_numberIn, Cond.code yX2_numberIn cX2_numberIn 4 (some .int)]
def wsL_law0_r19 : List Cond := [Cond.methodLink RL 159 yX2_reachable, Cond.methodLink RL 162 yX2_bestPlace, Cond.methodLink RL 165 yX2_spreadWith, Cond.instanceMethod yX2_spreadWith, Cond.selects RX2 yX2_spreadWith yX2_spreadWith, Cond.code yX2_spreadWith cX2_spreadWith 3 (some .int), Cond.methodLink RL 168 yX2_placeFor, Cond.methodLink RL 171 yX2_sum, Cond.methodLink RL 174 yX2_moment, Cond.methodLink RL 177 yX2_spreadAtRest, Cond.methodLink RL 180 yX3_isSame, Cond.instanceMethod yX3_isSame, Cond.selects RX3 yX3_isSame yX3_isSame, Cond.code yX3_isSame cX3_isSame 11 (some .boolean), Cond.methodLink RX3 68 yX3_tilt, Cond.instanceMethod yX3_tilt, Cond.selects RX3 yX3_tilt yX3_tilt, Cond.code yX3_tilt cX3_tilt 4 (some .int), Cond.methodLink RX3 71 yX2_numberAt, Cond.methodLink RX3 76 yX2_isSteep, Cond.methodLink RX3 80 yX2_tilt, Cond.methodLink RX3 81 yX2_numberIn, Cond.methodLink RX3 84 yX3_can, Cond.methodLink RX3 88 yX2_differences]
def wsL_law0_r20 : List Cond := [Cond.methodLink RX3 91 yX2_canReach, Cond.methodLink RX3 94 yX2_places, Cond.methodLink RX3 98 yX2_targets, Cond.methodLink RX3 100 yX2_tips, Cond.methodLink RX3 102 yX2_sum, Cond.methodLink RX3 104 yX2_moment, Cond.methodLink RX3 106 yX2_spread, Cond.methodLink RX3 109 yX3_spread, Cond.static yX3_spread, Cond.code yX3_spread cX3_spread 7 (some .int), Cond.constant RX3 31 (2147483647), Cond.constant RX3 32 (-2147483648), Cond.methodLink RX3 33 Lib.Math.min.name, Cond.methodLink RX3 39 Lib.Math.max.name, Cond.static Lib.Math.max.name, Cond.code Lib.Math.max.name Lib.Math.max.code 2 (some .int), Cond.methodLink RX3 111 yX2_highest, Cond.methodLink RX3 114 yX2_steepPlaces, Cond.methodLink RX3 117 yX2_nextToTip, Cond.methodLink RX3 120 yX2_levelAxes, Cond.methodLink RX3 123 yX2_bestAxis, Cond.methodLink RX3 126 yX2_reachable, Cond.methodLink RX3 129 yX2_meanNumber, Cond.instanceMethod yX2_meanNumber]
def wsL_law0_r21 : List Cond := [Cond.selects RX2 yX2_meanNumber yX2_meanNumber, Cond.code yX2_meanNumber cX2_meanNumber 2 (some .double)]
def wsL_law0 : List Cond := (wsL_law0_r1 ++ (wsL_law0_r2 ++ (wsL_law0_r3 ++ (wsL_law0_r4 ++ (wsL_law0_r5 ++ (wsL_law0_r6 ++ (wsL_law0_r7 ++ (wsL_law0_r8 ++ (wsL_law0_r9 ++ (wsL_law0_r10 ++ (wsL_law0_r11 ++ (wsL_law0_r12 ++ (wsL_law0_r13 ++ (wsL_law0_r14 ++ (wsL_law0_r15 ++ (wsL_law0_r16 ++ (wsL_law0_r17 ++ (wsL_law0_r18 ++ (wsL_law0_r19 ++ (wsL_law0_r20 ++ wsL_law0_r21)))))))))))))))))))) ++ wsX20 ++ wsX30 ++ wsX00 ++ wsX10 ++ ([] : List Cond)
def wsL_law : List Cond := wsL_law0 ++ (vx_atS RX2 41 "java/lang/IllegalArgumentException" ["java/lang/RuntimeException", "java/lang/Exception"]).filter goodWord ++ (vx_atS RX2 225 "java/lang/IndexOutOfBoundsException" ["java/lang/RuntimeException", "java/lang/Exception"]).filter goodWord ++ (vx_atS RX2 84 "java/lang/IllegalStateException" ["java/lang/RuntimeException", "java/lang/Exception"]).filter goodWord
theorem inX4 : ∀ w ∈ wsX40, w ∈ lw_tbl := by decide +kernel
theorem inJx8e188 : ∀ w ∈ wsJx8e1880, w ∈ lw_tbl := by decide +kernel
theorem inJ9 : ∀ w ∈ wsJ90, w ∈ lw_tbl := by decide +kernel
theorem inJ0 : ∀ w ∈ wsJ00, w ∈ lw_tbl := by decide +kernel
theorem dX0_init_0 : decode cX0_init 0 = .ok (.aload_n 0, 1) := by decide +kernel
theorem dX0_init_1 : decode cX0_init 1 = .ok (.invokespecial 3, 3) := by decide +kernel
theorem dX0_init_4 : decode cX0_init 4 = .ok (.aload_n 0, 1) := by decide +kernel
theorem dX0_init_5 : decode cX0_init 5 = .ok (.bipush 12, 2) := by decide +kernel
theorem dX0_init_7 : decode cX0_init 7 = .ok (.newarray .int, 2) := by decide +kernel
theorem dX0_init_9 : decode cX0_init 9 = .ok (.putfield 9, 3) := by decide +kernel
theorem dX0_init_12 : decode cX0_init 12 = .ok (.aload_n 0, 1) := by decide +kernel
theorem dX0_init_13 : decode cX0_init 13 = .ok (.bipush 6, 2) := by decide +kernel
theorem dX0_init_15 : decode cX0_init 15 = .ok (.putfield 15, 3) := by decide +kernel
theorem dX0_init_18 : decode cX0_init 18 = .ok (.return_, 1) := by decide +kernel
theorem dX0_size_0 : decode cX0_size 0 = .ok (.aload_n 0, 1) := by decide +kernel
theorem dX0_size_1 : decode cX0_size 1 = .ok (.getfield 15, 3) := by decide +kernel
theorem dX0_size_4 : decode cX0_size 4 = .ok (.ireturn, 1) := by decide +kernel
theorem dX0_at_0 : decode cX0_at 0 = .ok (.iload_n 1, 1) := by decide +kernel
theorem dX0_at_1 : decode cX0_at 1 = .ok (.ifCond .lt 21, 3) := by decide +kernel
theorem dX0_at_4 : decode cX0_at 4 = .ok (.iload_n 1, 1) := by decide +kernel
theorem dX0_at_5 : decode cX0_at 5 = .ok (.aload_n 0, 1) := by decide +kernel
theorem dX0_at_6 : decode cX0_at 6 = .ok (.getfield 9, 3) := by decide +kernel
theorem dX0_at_9 : decode cX0_at 9 = .ok (.arraylength, 1) := by decide +kernel
theorem dX0_at_10 : decode cX0_at 10 = .ok (.if_icmp .ge 12, 3) := by decide +kernel
theorem dX0_at_13 : decode cX0_at 13 = .ok (.aload_n 0, 1) := by decide +kernel
theorem dX0_at_14 : decode cX0_at 14 = .ok (.getfield 9, 3) := by decide +kernel
theorem dX0_at_17 : decode cX0_at 17 = .ok (.iload_n 1, 1) := by decide +kernel
theorem dX0_at_18 : decode cX0_at 18 = .ok (.iaload, 1) := by decide +kernel
theorem dX0_at_19 : decode cX0_at 19 = .ok (.goto 4, 3) := by decide +kernel
theorem dX0_at_22 : decode cX0_at 22 = .ok (.iconst 0, 1) := by decide +kernel
theorem dX0_at_23 : decode cX0_at 23 = .ok (.ireturn, 1) := by decide +kernel
theorem dX0_write_0 : decode cX0_write 0 = .ok (.iload_n 1, 1) := by decide +kernel
theorem dX0_write_1 : decode cX0_write 1 = .ok (.ifCond .lt 19, 3) := by decide +kernel
theorem dX0_write_4 : decode cX0_write 4 = .ok (.iload_n 1, 1) := by decide +kernel
theorem dX0_write_5 : decode cX0_write 5 = .ok (.aload_n 0, 1) := by decide +kernel
theorem dX0_write_6 : decode cX0_write 6 = .ok (.getfield 9, 3) := by decide +kernel
theorem dX0_write_9 : decode cX0_write 9 = .ok (.arraylength, 1) := by decide +kernel
theorem dX0_write_10 : decode cX0_write 10 = .ok (.if_icmp .ge 10, 3) := by decide +kernel
theorem dX0_write_13 : decode cX0_write 13 = .ok (.aload_n 0, 1) := by decide +kernel
theorem dX0_write_14 : decode cX0_write 14 = .ok (.getfield 9, 3) := by decide +kernel
theorem dX0_write_17 : decode cX0_write 17 = .ok (.iload_n 1, 1) := by decide +kernel
theorem dX0_write_18 : decode cX0_write 18 = .ok (.iload_n 2, 1) := by decide +kernel
theorem dX0_write_19 : decode cX0_write 19 = .ok (.iastore, 1) := by decide +kernel
theorem dX0_write_20 : decode cX0_write 20 = .ok (.return_, 1) := by decide +kernel
set_option maxRecDepth 20000 in
theorem ggX0_clear_X0_write : GoodIn wsX0_clear wsX0_write := goodIn_r _ [7, 2, 8, 9] (by decide +kernel) (by decide +kernel)
set_option maxRecDepth 20000 in
theorem gX0_clear_X0_write : GoodIn wsX0_clear (wsV RX0 19 RX0 yX0_write wsX0_write) := goodIn_app (goodIn_of _ (by decide +kernel)) ggX0_clear_X0_write
theorem dX0_clear_0 : decode cX0_clear 0 = .ok (.aload_n 0, 1) := by decide +kernel
theorem dX0_clear_1 : decode cX0_clear 1 = .ok (.iload_n 1, 1) := by decide +kernel
theorem dX0_clear_2 : decode cX0_clear 2 = .ok (.putfield 15, 3) := by decide +kernel
theorem dX0_clear_5 : decode cX0_clear 5 = .ok (.iconst 0, 1) := by decide +kernel
theorem dX0_clear_6 : decode cX0_clear 6 = .ok (.istore_n 2, 1) := by decide +kernel
theorem dX0_clear_7 : decode cX0_clear 7 = .ok (.iload_n 2, 1) := by decide +kernel
theorem dX0_clear_8 : decode cX0_clear 8 = .ok (.aload_n 0, 1) := by decide +kernel
theorem dX0_clear_9 : decode cX0_clear 9 = .ok (.getfield 9, 3) := by decide +kernel
theorem dX0_clear_12 : decode cX0_clear 12 = .ok (.arraylength, 1) := by decide +kernel
theorem dX0_clear_13 : decode cX0_clear 13 = .ok (.if_icmp .ge 15, 3) := by decide +kernel
theorem dX0_clear_16 : decode cX0_clear 16 = .ok (.aload_n 0, 1) := by decide +kernel
theorem dX0_clear_17 : decode cX0_clear 17 = .ok (.iload_n 2, 1) := by decide +kernel
theorem dX0_clear_18 : decode cX0_clear 18 = .ok (.iconst 0, 1) := by decide +kernel
theorem dX0_clear_19 : decode cX0_clear 19 = .ok (.invokevirtual 19, 3) := by decide +kernel
theorem dX0_clear_22 : decode cX0_clear 22 = .ok (.iinc 2 1, 3) := by decide +kernel
theorem dX0_clear_25 : decode cX0_clear 25 = .ok (.goto (-18), 3) := by decide +kernel
theorem dX0_clear_28 : decode cX0_clear 28 = .ok (.return_, 1) := by decide +kernel
set_option maxRecDepth 20000 in
theorem ggX0_copyFrom_X0_at : GoodIn wsX0_copyFrom wsX0_at := goodIn_r _ [7, 2, 12, 13] (by decide +kernel) (by decide +kernel)
set_option maxRecDepth 20000 in
theorem gX0_copyFrom_X0_at : GoodIn wsX0_copyFrom (wsV RX0 23 RX0 yX0_at wsX0_at) := goodIn_app (goodIn_of _ (by decide +kernel)) ggX0_copyFrom_X0_at
set_option maxRecDepth 20000 in
theorem ggX0_copyFrom_X0_write : GoodIn wsX0_copyFrom wsX0_write := goodIn_r _ [11, 2, 12, 13] (by decide +kernel) (by decide +kernel)
set_option maxRecDepth 20000 in
theorem gX0_copyFrom_X0_write : GoodIn wsX0_copyFrom (wsV RX0 19 RX0 yX0_write wsX0_write) := goodIn_app (goodIn_of _ (by decide +kernel)) ggX0_copyFrom_X0_write
theorem dX0_copyFrom_0 : decode cX0_copyFrom 0 = .ok (.aload_n 0, 1) := by decide +kernel
theorem dX0_copyFrom_1 : decode cX0_copyFrom 1 = .ok (.aload_n 1, 1) := by decide +kernel
theorem dX0_copyFrom_2 : decode cX0_copyFrom 2 = .ok (.getfield 15, 3) := by decide +kernel
theorem dX0_copyFrom_5 : decode cX0_copyFrom 5 = .ok (.putfield 15, 3) := by decide +kernel
theorem dX0_copyFrom_8 : decode cX0_copyFrom 8 = .ok (.iconst 0, 1) := by decide +kernel
theorem dX0_copyFrom_9 : decode cX0_copyFrom 9 = .ok (.istore_n 2, 1) := by decide +kernel
theorem dX0_copyFrom_10 : decode cX0_copyFrom 10 = .ok (.iload_n 2, 1) := by decide +kernel
theorem dX0_copyFrom_11 : decode cX0_copyFrom 11 = .ok (.aload_n 0, 1) := by decide +kernel
theorem dX0_copyFrom_12 : decode cX0_copyFrom 12 = .ok (.getfield 9, 3) := by decide +kernel
theorem dX0_copyFrom_15 : decode cX0_copyFrom 15 = .ok (.arraylength, 1) := by decide +kernel
theorem dX0_copyFrom_16 : decode cX0_copyFrom 16 = .ok (.if_icmp .ge 19, 3) := by decide +kernel
theorem dX0_copyFrom_19 : decode cX0_copyFrom 19 = .ok (.aload_n 0, 1) := by decide +kernel
theorem dX0_copyFrom_20 : decode cX0_copyFrom 20 = .ok (.iload_n 2, 1) := by decide +kernel
theorem dX0_copyFrom_21 : decode cX0_copyFrom 21 = .ok (.aload_n 1, 1) := by decide +kernel
theorem dX0_copyFrom_22 : decode cX0_copyFrom 22 = .ok (.iload_n 2, 1) := by decide +kernel
theorem dX0_copyFrom_23 : decode cX0_copyFrom 23 = .ok (.invokevirtual 23, 3) := by decide +kernel
theorem dX0_copyFrom_26 : decode cX0_copyFrom 26 = .ok (.invokevirtual 19, 3) := by decide +kernel
theorem dX0_copyFrom_29 : decode cX0_copyFrom 29 = .ok (.iinc 2 1, 3) := by decide +kernel
theorem dX0_copyFrom_32 : decode cX0_copyFrom 32 = .ok (.goto (-22), 3) := by decide +kernel
theorem dX0_copyFrom_35 : decode cX0_copyFrom 35 = .ok (.return_, 1) := by decide +kernel
set_option maxRecDepth 20000 in
theorem ggX0_rotate_X0_at : GoodIn wsX0_rotate wsX0_at := goodIn_r _ [6, 7, 12, 13] (by decide +kernel) (by decide +kernel)
set_option maxRecDepth 20000 in
theorem gX0_rotate_X0_at : GoodIn wsX0_rotate (wsV RX0 23 RX0 yX0_at wsX0_at) := goodIn_app (goodIn_of _ (by decide +kernel)) ggX0_rotate_X0_at
set_option maxRecDepth 20000 in
theorem ggX0_rotate_X0_write : GoodIn wsX0_rotate wsX0_write := goodIn_r _ [11, 7, 12, 13] (by decide +kernel) (by decide +kernel)
set_option maxRecDepth 20000 in
theorem gX0_rotate_X0_write : GoodIn wsX0_rotate (wsV RX0 19 RX0 yX0_write wsX0_write) := goodIn_app (goodIn_of _ (by decide +kernel)) ggX0_rotate_X0_write
theorem dX0_rotate_0 : decode cX0_rotate 0 = .ok (.aload_n 0, 1) := by decide +kernel
theorem dX0_rotate_1 : decode cX0_rotate 1 = .ok (.aload_n 0, 1) := by decide +kernel
theorem dX0_rotate_2 : decode cX0_rotate 2 = .ok (.getfield 15, 3) := by decide +kernel
theorem dX0_rotate_5 : decode cX0_rotate 5 = .ok (.iconst 1, 1) := by decide +kernel
theorem dX0_rotate_6 : decode cX0_rotate 6 = .ok (.isub, 1) := by decide +kernel
theorem dX0_rotate_7 : decode cX0_rotate 7 = .ok (.invokevirtual 23, 3) := by decide +kernel
theorem dX0_rotate_10 : decode cX0_rotate 10 = .ok (.istore_n 1, 1) := by decide +kernel
theorem dX0_rotate_11 : decode cX0_rotate 11 = .ok (.aload_n 0, 1) := by decide +kernel
theorem dX0_rotate_12 : decode cX0_rotate 12 = .ok (.getfield 15, 3) := by decide +kernel
theorem dX0_rotate_15 : decode cX0_rotate 15 = .ok (.iconst 1, 1) := by decide +kernel
theorem dX0_rotate_16 : decode cX0_rotate 16 = .ok (.isub, 1) := by decide +kernel
theorem dX0_rotate_17 : decode cX0_rotate 17 = .ok (.istore_n 2, 1) := by decide +kernel
theorem dX0_rotate_18 : decode cX0_rotate 18 = .ok (.iload_n 2, 1) := by decide +kernel
theorem dX0_rotate_19 : decode cX0_rotate 19 = .ok (.ifCond .le 21, 3) := by decide +kernel
theorem dX0_rotate_22 : decode cX0_rotate 22 = .ok (.aload_n 0, 1) := by decide +kernel
theorem dX0_rotate_23 : decode cX0_rotate 23 = .ok (.iload_n 2, 1) := by decide +kernel
theorem dX0_rotate_24 : decode cX0_rotate 24 = .ok (.aload_n 0, 1) := by decide +kernel
theorem dX0_rotate_25 : decode cX0_rotate 25 = .ok (.iload_n 2, 1) := by decide +kernel
theorem dX0_rotate_26 : decode cX0_rotate 26 = .ok (.iconst 1, 1) := by decide +kernel
theorem dX0_rotate_27 : decode cX0_rotate 27 = .ok (.isub, 1) := by decide +kernel
theorem dX0_rotate_28 : decode cX0_rotate 28 = .ok (.invokevirtual 23, 3) := by decide +kernel
theorem dX0_rotate_31 : decode cX0_rotate 31 = .ok (.invokevirtual 19, 3) := by decide +kernel
theorem dX0_rotate_34 : decode cX0_rotate 34 = .ok (.iinc 2 (-1), 3) := by decide +kernel
theorem dX0_rotate_37 : decode cX0_rotate 37 = .ok (.goto (-19), 3) := by decide +kernel
theorem dX0_rotate_40 : decode cX0_rotate 40 = .ok (.aload_n 0, 1) := by decide +kernel
theorem dX0_rotate_41 : decode cX0_rotate 41 = .ok (.iconst 0, 1) := by decide +kernel
theorem dX0_rotate_42 : decode cX0_rotate 42 = .ok (.iload_n 1, 1) := by decide +kernel
theorem dX0_rotate_43 : decode cX0_rotate 43 = .ok (.invokevirtual 19, 3) := by decide +kernel
theorem dX0_rotate_46 : decode cX0_rotate 46 = .ok (.return_, 1) := by decide +kernel
set_option maxRecDepth 20000 in
theorem ggX0_tipBy_X0_add : GoodIn wsX0_tipBy wsX0_add := goodIn_r _ [5, 6, 7, 8, 4, 9, 10, 11, 12, 13, 14, 20, 21] (by decide +kernel) (by decide +kernel)
set_option maxRecDepth 20000 in
theorem gX0_tipBy_X0_add : GoodIn wsX0_tipBy (wsV RX0 27 RX0 yX0_add wsX0_add) := goodIn_app (goodIn_of _ (by decide +kernel)) ggX0_tipBy_X0_add
set_option maxRecDepth 20000 in
theorem ggX0_tipBy_X0_onRing : GoodIn wsX0_tipBy wsX0_onRing := goodIn_r _ [18, 19, 20, 21] (by decide +kernel) (by decide +kernel)
set_option maxRecDepth 20000 in
theorem gX0_tipBy_X0_onRing : GoodIn wsX0_tipBy (wsV RX0 30 RX0 yX0_onRing wsX0_onRing) := goodIn_app (goodIn_of _ (by decide +kernel)) ggX0_tipBy_X0_onRing
theorem dX0_tipBy_0 : decode cX0_tipBy 0 = .ok (.aload_n 0, 1) := by decide +kernel
theorem dX0_tipBy_1 : decode cX0_tipBy 1 = .ok (.iload_n 1, 1) := by decide +kernel
theorem dX0_tipBy_2 : decode cX0_tipBy 2 = .ok (.bipush (-2), 2) := by decide +kernel
theorem dX0_tipBy_4 : decode cX0_tipBy 4 = .ok (.iload_n 2, 1) := by decide +kernel
theorem dX0_tipBy_5 : decode cX0_tipBy 5 = .ok (.imul, 1) := by decide +kernel
theorem dX0_tipBy_6 : decode cX0_tipBy 6 = .ok (.invokevirtual 27, 3) := by decide +kernel
theorem dX0_tipBy_9 : decode cX0_tipBy 9 = .ok (.aload_n 0, 1) := by decide +kernel
theorem dX0_tipBy_10 : decode cX0_tipBy 10 = .ok (.aload_n 0, 1) := by decide +kernel
theorem dX0_tipBy_11 : decode cX0_tipBy 11 = .ok (.iload_n 1, 1) := by decide +kernel
theorem dX0_tipBy_12 : decode cX0_tipBy 12 = .ok (.iconst 1, 1) := by decide +kernel
theorem dX0_tipBy_13 : decode cX0_tipBy 13 = .ok (.iadd, 1) := by decide +kernel
theorem dX0_tipBy_14 : decode cX0_tipBy 14 = .ok (.invokevirtual 30, 3) := by decide +kernel
theorem dX0_tipBy_17 : decode cX0_tipBy 17 = .ok (.iload_n 2, 1) := by decide +kernel
theorem dX0_tipBy_18 : decode cX0_tipBy 18 = .ok (.invokevirtual 27, 3) := by decide +kernel
theorem dX0_tipBy_21 : decode cX0_tipBy 21 = .ok (.aload_n 0, 1) := by decide +kernel
theorem dX0_tipBy_22 : decode cX0_tipBy 22 = .ok (.aload_n 0, 1) := by decide +kernel
theorem dX0_tipBy_23 : decode cX0_tipBy 23 = .ok (.iload_n 1, 1) := by decide +kernel
theorem dX0_tipBy_24 : decode cX0_tipBy 24 = .ok (.iconst 1, 1) := by decide +kernel
theorem dX0_tipBy_25 : decode cX0_tipBy 25 = .ok (.isub, 1) := by decide +kernel
theorem dX0_tipBy_26 : decode cX0_tipBy 26 = .ok (.invokevirtual 30, 3) := by decide +kernel
theorem dX0_tipBy_29 : decode cX0_tipBy 29 = .ok (.iload_n 2, 1) := by decide +kernel
theorem dX0_tipBy_30 : decode cX0_tipBy 30 = .ok (.invokevirtual 27, 3) := by decide +kernel
theorem dX0_tipBy_33 : decode cX0_tipBy 33 = .ok (.return_, 1) := by decide +kernel
set_option maxRecDepth 20000 in
theorem ggX0_settleBy_X0_firstSteep : GoodIn wsX0_settleBy wsX0_firstSteep := goodIn_r _ [5, 6, 7, 8, 9, 4, 10, 11, 12, 13, 14, 15, 16, 17, 18, 19, 32, 33] (by decide +kernel) (by decide +kernel)
set_option maxRecDepth 20000 in
theorem gX0_settleBy_X0_firstSteep : GoodIn wsX0_settleBy (wsV RX0 33 RX0 yX0_firstSteep wsX0_firstSteep) := goodIn_app (goodIn_of _ (by decide +kernel)) ggX0_settleBy_X0_firstSteep
set_option maxRecDepth 20000 in
theorem ggX0_settleBy_X0_tipBy : GoodIn wsX0_settleBy wsX0_tipBy := goodIn_r _ [23, 24, 25, 26, 4, 27, 11, 12, 13, 14, 15, 28, 29, 30, 31, 16, 17, 18, 19, 6, 32, 33] (by decide +kernel) (by decide +kernel)
set_option maxRecDepth 20000 in
theorem gX0_settleBy_X0_tipBy : GoodIn wsX0_settleBy (wsV RX0 37 RX0 yX0_tipBy wsX0_tipBy) := goodIn_app (goodIn_of _ (by decide +kernel)) ggX0_settleBy_X0_tipBy
theorem dX0_settleBy_0 : decode cX0_settleBy 0 = .ok (.iconst 0, 1) := by decide +kernel
theorem dX0_settleBy_1 : decode cX0_settleBy 1 = .ok (.istore_n 2, 1) := by decide +kernel
theorem dX0_settleBy_2 : decode cX0_settleBy 2 = .ok (.iload_n 2, 1) := by decide +kernel
theorem dX0_settleBy_3 : decode cX0_settleBy 3 = .ok (.iload_n 1, 1) := by decide +kernel
theorem dX0_settleBy_4 : decode cX0_settleBy 4 = .ok (.if_icmp .ge 26, 3) := by decide +kernel
theorem dX0_settleBy_7 : decode cX0_settleBy 7 = .ok (.aload_n 0, 1) := by decide +kernel
theorem dX0_settleBy_8 : decode cX0_settleBy 8 = .ok (.invokevirtual 33, 3) := by decide +kernel
theorem dX0_settleBy_11 : decode cX0_settleBy 11 = .ok (.istore_n 3, 1) := by decide +kernel
theorem dX0_settleBy_12 : decode cX0_settleBy 12 = .ok (.iload_n 3, 1) := by decide +kernel
theorem dX0_settleBy_13 : decode cX0_settleBy 13 = .ok (.ifCond .ge 5, 3) := by decide +kernel
theorem dX0_settleBy_16 : decode cX0_settleBy 16 = .ok (.iload_n 2, 1) := by decide +kernel
theorem dX0_settleBy_17 : decode cX0_settleBy 17 = .ok (.ireturn, 1) := by decide +kernel
theorem dX0_settleBy_18 : decode cX0_settleBy 18 = .ok (.aload_n 0, 1) := by decide +kernel
theorem dX0_settleBy_19 : decode cX0_settleBy 19 = .ok (.iload_n 3, 1) := by decide +kernel
theorem dX0_settleBy_20 : decode cX0_settleBy 20 = .ok (.iconst 1, 1) := by decide +kernel
theorem dX0_settleBy_21 : decode cX0_settleBy 21 = .ok (.invokevirtual 37, 3) := by decide +kernel
theorem dX0_settleBy_24 : decode cX0_settleBy 24 = .ok (.iinc 2 1, 3) := by decide +kernel
theorem dX0_settleBy_27 : decode cX0_settleBy 27 = .ok (.goto (-25), 3) := by decide +kernel
theorem dX0_settleBy_30 : decode cX0_settleBy 30 = .ok (.iload_n 2, 1) := by decide +kernel
theorem dX0_settleBy_31 : decode cX0_settleBy 31 = .ok (.ireturn, 1) := by decide +kernel
set_option maxRecDepth 20000 in
theorem ggX0_total_X0_at : GoodIn wsX0_total wsX0_at := goodIn_r _ [6, 7, 8, 9] (by decide +kernel) (by decide +kernel)
set_option maxRecDepth 20000 in
theorem gX0_total_X0_at : GoodIn wsX0_total (wsV RX0 23 RX0 yX0_at wsX0_at) := goodIn_app (goodIn_of _ (by decide +kernel)) ggX0_total_X0_at
theorem dX0_total_0 : decode cX0_total 0 = .ok (.iconst 0, 1) := by decide +kernel
theorem dX0_total_1 : decode cX0_total 1 = .ok (.istore_n 1, 1) := by decide +kernel
theorem dX0_total_2 : decode cX0_total 2 = .ok (.iconst 0, 1) := by decide +kernel
theorem dX0_total_3 : decode cX0_total 3 = .ok (.istore_n 2, 1) := by decide +kernel
theorem dX0_total_4 : decode cX0_total 4 = .ok (.iload_n 2, 1) := by decide +kernel
theorem dX0_total_5 : decode cX0_total 5 = .ok (.aload_n 0, 1) := by decide +kernel
theorem dX0_total_6 : decode cX0_total 6 = .ok (.getfield 15, 3) := by decide +kernel
theorem dX0_total_9 : decode cX0_total 9 = .ok (.if_icmp .ge 17, 3) := by decide +kernel
theorem dX0_total_12 : decode cX0_total 12 = .ok (.iload_n 1, 1) := by decide +kernel
theorem dX0_total_13 : decode cX0_total 13 = .ok (.aload_n 0, 1) := by decide +kernel
theorem dX0_total_14 : decode cX0_total 14 = .ok (.iload_n 2, 1) := by decide +kernel
theorem dX0_total_15 : decode cX0_total 15 = .ok (.invokevirtual 23, 3) := by decide +kernel
theorem dX0_total_18 : decode cX0_total 18 = .ok (.iadd, 1) := by decide +kernel
theorem dX0_total_19 : decode cX0_total 19 = .ok (.istore_n 1, 1) := by decide +kernel
theorem dX0_total_20 : decode cX0_total 20 = .ok (.iinc 2 1, 3) := by decide +kernel
theorem dX0_total_23 : decode cX0_total 23 = .ok (.goto (-19), 3) := by decide +kernel
theorem dX0_total_26 : decode cX0_total 26 = .ok (.iload_n 1, 1) := by decide +kernel
theorem dX0_total_27 : decode cX0_total 27 = .ok (.ireturn, 1) := by decide +kernel
set_option maxRecDepth 20000 in
theorem ggX0_momentLeft_X0_at : GoodIn wsX0_momentLeft wsX0_at := goodIn_r _ [6, 7, 12, 13] (by decide +kernel) (by decide +kernel)
set_option maxRecDepth 20000 in
theorem gX0_momentLeft_X0_at : GoodIn wsX0_momentLeft (wsV RX0 23 RX0 yX0_at wsX0_at) := goodIn_app (goodIn_of _ (by decide +kernel)) ggX0_momentLeft_X0_at
set_option maxRecDepth 20000 in
theorem ggX0_momentLeft_J9_floorMod_7cf53 : GoodIn wsX0_momentLeft wsJ9_floorMod_7cf53 := goodIn_r _ [11] (by decide +kernel) (by decide +kernel)
set_option maxRecDepth 20000 in
theorem gX0_momentLeft_J9_floorMod_7cf53 : GoodIn wsX0_momentLeft (va_wsS RX0 40 yJ9_floorMod_7cf53 wsJ9_floorMod_7cf53) := goodIn_app (goodIn_of _ (by decide +kernel)) ggX0_momentLeft_J9_floorMod_7cf53
theorem dX0_momentLeft_0 : decode cX0_momentLeft 0 = .ok (.iconst 0, 1) := by decide +kernel
theorem dX0_momentLeft_1 : decode cX0_momentLeft 1 = .ok (.istore_n 1, 1) := by decide +kernel
theorem dX0_momentLeft_2 : decode cX0_momentLeft 2 = .ok (.iconst 0, 1) := by decide +kernel
theorem dX0_momentLeft_3 : decode cX0_momentLeft 3 = .ok (.istore_n 2, 1) := by decide +kernel
theorem dX0_momentLeft_4 : decode cX0_momentLeft 4 = .ok (.iload_n 2, 1) := by decide +kernel
theorem dX0_momentLeft_5 : decode cX0_momentLeft 5 = .ok (.aload_n 0, 1) := by decide +kernel
theorem dX0_momentLeft_6 : decode cX0_momentLeft 6 = .ok (.getfield 15, 3) := by decide +kernel
theorem dX0_momentLeft_9 : decode cX0_momentLeft 9 = .ok (.if_icmp .ge 19, 3) := by decide +kernel
theorem dX0_momentLeft_12 : decode cX0_momentLeft 12 = .ok (.iload_n 1, 1) := by decide +kernel
theorem dX0_momentLeft_13 : decode cX0_momentLeft 13 = .ok (.aload_n 0, 1) := by decide +kernel
theorem dX0_momentLeft_14 : decode cX0_momentLeft 14 = .ok (.iload_n 2, 1) := by decide +kernel
theorem dX0_momentLeft_15 : decode cX0_momentLeft 15 = .ok (.invokevirtual 23, 3) := by decide +kernel
theorem dX0_momentLeft_18 : decode cX0_momentLeft 18 = .ok (.iload_n 2, 1) := by decide +kernel
theorem dX0_momentLeft_19 : decode cX0_momentLeft 19 = .ok (.imul, 1) := by decide +kernel
theorem dX0_momentLeft_20 : decode cX0_momentLeft 20 = .ok (.iadd, 1) := by decide +kernel
theorem dX0_momentLeft_21 : decode cX0_momentLeft 21 = .ok (.istore_n 1, 1) := by decide +kernel
theorem dX0_momentLeft_22 : decode cX0_momentLeft 22 = .ok (.iinc 2 1, 3) := by decide +kernel
theorem dX0_momentLeft_25 : decode cX0_momentLeft 25 = .ok (.goto (-21), 3) := by decide +kernel
theorem dX0_momentLeft_28 : decode cX0_momentLeft 28 = .ok (.aload_n 0, 1) := by decide +kernel
theorem dX0_momentLeft_29 : decode cX0_momentLeft 29 = .ok (.getfield 15, 3) := by decide +kernel
theorem dX0_momentLeft_32 : decode cX0_momentLeft 32 = .ok (.ifCond .le 14, 3) := by decide +kernel
theorem dX0_momentLeft_35 : decode cX0_momentLeft 35 = .ok (.iload_n 1, 1) := by decide +kernel
theorem dX0_momentLeft_36 : decode cX0_momentLeft 36 = .ok (.aload_n 0, 1) := by decide +kernel
theorem dX0_momentLeft_37 : decode cX0_momentLeft 37 = .ok (.getfield 15, 3) := by decide +kernel
theorem dX0_momentLeft_40 : decode cX0_momentLeft 40 = .ok (.invokestatic 40, 3) := by decide +kernel
theorem dX0_momentLeft_43 : decode cX0_momentLeft 43 = .ok (.goto 4, 3) := by decide +kernel
theorem dX0_momentLeft_46 : decode cX0_momentLeft 46 = .ok (.iconst 0, 1) := by decide +kernel
theorem dX0_momentLeft_47 : decode cX0_momentLeft 47 = .ok (.ireturn, 1) := by decide +kernel
set_option maxRecDepth 20000 in
theorem ggX0_firstGreatest_X0_at : GoodIn wsX0_firstGreatest wsX0_at := goodIn_r _ [6, 7, 8, 9] (by decide +kernel) (by decide +kernel)
set_option maxRecDepth 20000 in
theorem gX0_firstGreatest_X0_at : GoodIn wsX0_firstGreatest (wsV RX0 23 RX0 yX0_at wsX0_at) := goodIn_app (goodIn_of _ (by decide +kernel)) ggX0_firstGreatest_X0_at
theorem dX0_firstGreatest_0 : decode cX0_firstGreatest 0 = .ok (.iconst 0, 1) := by decide +kernel
theorem dX0_firstGreatest_1 : decode cX0_firstGreatest 1 = .ok (.istore_n 1, 1) := by decide +kernel
theorem dX0_firstGreatest_2 : decode cX0_firstGreatest 2 = .ok (.iconst 1, 1) := by decide +kernel
theorem dX0_firstGreatest_3 : decode cX0_firstGreatest 3 = .ok (.istore_n 2, 1) := by decide +kernel
theorem dX0_firstGreatest_4 : decode cX0_firstGreatest 4 = .ok (.iload_n 2, 1) := by decide +kernel
theorem dX0_firstGreatest_5 : decode cX0_firstGreatest 5 = .ok (.aload_n 0, 1) := by decide +kernel
theorem dX0_firstGreatest_6 : decode cX0_firstGreatest 6 = .ok (.getfield 15, 3) := by decide +kernel
theorem dX0_firstGreatest_9 : decode cX0_firstGreatest 9 = .ok (.if_icmp .ge 24, 3) := by decide +kernel
theorem dX0_firstGreatest_12 : decode cX0_firstGreatest 12 = .ok (.aload_n 0, 1) := by decide +kernel
theorem dX0_firstGreatest_13 : decode cX0_firstGreatest 13 = .ok (.iload_n 2, 1) := by decide +kernel
theorem dX0_firstGreatest_14 : decode cX0_firstGreatest 14 = .ok (.invokevirtual 23, 3) := by decide +kernel
theorem dX0_firstGreatest_17 : decode cX0_firstGreatest 17 = .ok (.aload_n 0, 1) := by decide +kernel
theorem dX0_firstGreatest_18 : decode cX0_firstGreatest 18 = .ok (.iload_n 1, 1) := by decide +kernel
theorem dX0_firstGreatest_19 : decode cX0_firstGreatest 19 = .ok (.invokevirtual 23, 3) := by decide +kernel
theorem dX0_firstGreatest_22 : decode cX0_firstGreatest 22 = .ok (.if_icmp .le 5, 3) := by decide +kernel
theorem dX0_firstGreatest_25 : decode cX0_firstGreatest 25 = .ok (.iload_n 2, 1) := by decide +kernel
theorem dX0_firstGreatest_26 : decode cX0_firstGreatest 26 = .ok (.istore_n 1, 1) := by decide +kernel
theorem dX0_firstGreatest_27 : decode cX0_firstGreatest 27 = .ok (.iinc 2 1, 3) := by decide +kernel
theorem dX0_firstGreatest_30 : decode cX0_firstGreatest 30 = .ok (.goto (-26), 3) := by decide +kernel
theorem dX0_firstGreatest_33 : decode cX0_firstGreatest 33 = .ok (.iload_n 1, 1) := by decide +kernel
theorem dX0_firstGreatest_34 : decode cX0_firstGreatest 34 = .ok (.ireturn, 1) := by decide +kernel
set_option maxRecDepth 20000 in
theorem ggX0_span_X0_at : GoodIn wsX0_span wsX0_at := goodIn_r _ [10, 11, 16, 17] (by decide +kernel) (by decide +kernel)
set_option maxRecDepth 20000 in
theorem gX0_span_X0_at : GoodIn wsX0_span (wsV RX0 23 RX0 yX0_at wsX0_at) := goodIn_app (goodIn_of _ (by decide +kernel)) ggX0_span_X0_at
set_option maxRecDepth 20000 in
theorem ggX0_span_X0_firstGreatest : GoodIn wsX0_span wsX0_firstGreatest := goodIn_r _ [15, 1, 6, 7, 8, 9, 10, 11, 16, 17] (by decide +kernel) (by decide +kernel)
set_option maxRecDepth 20000 in
theorem gX0_span_X0_firstGreatest : GoodIn wsX0_span (wsV RX0 49 RX0 yX0_firstGreatest wsX0_firstGreatest) := goodIn_app (goodIn_of _ (by decide +kernel)) ggX0_span_X0_firstGreatest
theorem dX0_span_0 : decode cX0_span 0 = .ok (.aload_n 0, 1) := by decide +kernel
theorem dX0_span_1 : decode cX0_span 1 = .ok (.iconst 0, 1) := by decide +kernel
theorem dX0_span_2 : decode cX0_span 2 = .ok (.invokevirtual 23, 3) := by decide +kernel
theorem dX0_span_5 : decode cX0_span 5 = .ok (.istore_n 1, 1) := by decide +kernel
theorem dX0_span_6 : decode cX0_span 6 = .ok (.iconst 1, 1) := by decide +kernel
theorem dX0_span_7 : decode cX0_span 7 = .ok (.istore_n 2, 1) := by decide +kernel
theorem dX0_span_8 : decode cX0_span 8 = .ok (.iload_n 2, 1) := by decide +kernel
theorem dX0_span_9 : decode cX0_span 9 = .ok (.aload_n 0, 1) := by decide +kernel
theorem dX0_span_10 : decode cX0_span 10 = .ok (.getfield 15, 3) := by decide +kernel
theorem dX0_span_13 : decode cX0_span 13 = .ok (.if_icmp .ge 19, 3) := by decide +kernel
theorem dX0_span_16 : decode cX0_span 16 = .ok (.iload_n 1, 1) := by decide +kernel
theorem dX0_span_17 : decode cX0_span 17 = .ok (.aload_n 0, 1) := by decide +kernel
theorem dX0_span_18 : decode cX0_span 18 = .ok (.iload_n 2, 1) := by decide +kernel
theorem dX0_span_19 : decode cX0_span 19 = .ok (.invokevirtual 23, 3) := by decide +kernel
theorem dX0_span_22 : decode cX0_span 22 = .ok (.invokestatic 46, 3) := by decide +kernel
theorem dX0_span_25 : decode cX0_span 25 = .ok (.istore_n 1, 1) := by decide +kernel
theorem dX0_span_26 : decode cX0_span 26 = .ok (.iinc 2 1, 3) := by decide +kernel
theorem dX0_span_29 : decode cX0_span 29 = .ok (.goto (-21), 3) := by decide +kernel
theorem dX0_span_32 : decode cX0_span 32 = .ok (.aload_n 0, 1) := by decide +kernel
theorem dX0_span_33 : decode cX0_span 33 = .ok (.aload_n 0, 1) := by decide +kernel
theorem dX0_span_34 : decode cX0_span 34 = .ok (.invokevirtual 49, 3) := by decide +kernel
theorem dX0_span_37 : decode cX0_span 37 = .ok (.invokevirtual 23, 3) := by decide +kernel
theorem dX0_span_40 : decode cX0_span 40 = .ok (.iload_n 1, 1) := by decide +kernel
theorem dX0_span_41 : decode cX0_span 41 = .ok (.isub, 1) := by decide +kernel
theorem dX0_span_42 : decode cX0_span 42 = .ok (.ireturn, 1) := by decide +kernel
set_option maxRecDepth 20000 in
theorem ggX0_steepAt_X0_at : GoodIn wsX0_steepAt wsX0_at := goodIn_r _ [5, 6, 12, 13] (by decide +kernel) (by decide +kernel)
set_option maxRecDepth 20000 in
theorem gX0_steepAt_X0_at : GoodIn wsX0_steepAt (wsV RX0 23 RX0 yX0_at wsX0_at) := goodIn_app (goodIn_of _ (by decide +kernel)) ggX0_steepAt_X0_at
set_option maxRecDepth 20000 in
theorem ggX0_steepAt_X0_onRing : GoodIn wsX0_steepAt wsX0_onRing := goodIn_r _ [10, 11, 12, 13] (by decide +kernel) (by decide +kernel)
set_option maxRecDepth 20000 in
theorem gX0_steepAt_X0_onRing : GoodIn wsX0_steepAt (wsV RX0 30 RX0 yX0_onRing wsX0_onRing) := goodIn_app (goodIn_of _ (by decide +kernel)) ggX0_steepAt_X0_onRing
theorem dX0_steepAt_0 : decode cX0_steepAt 0 = .ok (.iconst 2, 1) := by decide +kernel
theorem dX0_steepAt_1 : decode cX0_steepAt 1 = .ok (.aload_n 0, 1) := by decide +kernel
theorem dX0_steepAt_2 : decode cX0_steepAt 2 = .ok (.iload_n 1, 1) := by decide +kernel
theorem dX0_steepAt_3 : decode cX0_steepAt 3 = .ok (.invokevirtual 23, 3) := by decide +kernel
theorem dX0_steepAt_6 : decode cX0_steepAt 6 = .ok (.imul, 1) := by decide +kernel
theorem dX0_steepAt_7 : decode cX0_steepAt 7 = .ok (.aload_n 0, 1) := by decide +kernel
theorem dX0_steepAt_8 : decode cX0_steepAt 8 = .ok (.aload_n 0, 1) := by decide +kernel
theorem dX0_steepAt_9 : decode cX0_steepAt 9 = .ok (.iload_n 1, 1) := by decide +kernel
theorem dX0_steepAt_10 : decode cX0_steepAt 10 = .ok (.iconst 1, 1) := by decide +kernel
theorem dX0_steepAt_11 : decode cX0_steepAt 11 = .ok (.iadd, 1) := by decide +kernel
theorem dX0_steepAt_12 : decode cX0_steepAt 12 = .ok (.invokevirtual 30, 3) := by decide +kernel
theorem dX0_steepAt_15 : decode cX0_steepAt 15 = .ok (.invokevirtual 23, 3) := by decide +kernel
theorem dX0_steepAt_18 : decode cX0_steepAt 18 = .ok (.isub, 1) := by decide +kernel
theorem dX0_steepAt_19 : decode cX0_steepAt 19 = .ok (.aload_n 0, 1) := by decide +kernel
theorem dX0_steepAt_20 : decode cX0_steepAt 20 = .ok (.aload_n 0, 1) := by decide +kernel
theorem dX0_steepAt_21 : decode cX0_steepAt 21 = .ok (.iload_n 1, 1) := by decide +kernel
theorem dX0_steepAt_22 : decode cX0_steepAt 22 = .ok (.iconst 1, 1) := by decide +kernel
theorem dX0_steepAt_23 : decode cX0_steepAt 23 = .ok (.isub, 1) := by decide +kernel
theorem dX0_steepAt_24 : decode cX0_steepAt 24 = .ok (.invokevirtual 30, 3) := by decide +kernel
theorem dX0_steepAt_27 : decode cX0_steepAt 27 = .ok (.invokevirtual 23, 3) := by decide +kernel
theorem dX0_steepAt_30 : decode cX0_steepAt 30 = .ok (.isub, 1) := by decide +kernel
theorem dX0_steepAt_31 : decode cX0_steepAt 31 = .ok (.iconst 3, 1) := by decide +kernel
theorem dX0_steepAt_32 : decode cX0_steepAt 32 = .ok (.if_icmp .le 7, 3) := by decide +kernel
theorem dX0_steepAt_35 : decode cX0_steepAt 35 = .ok (.iconst 1, 1) := by decide +kernel
theorem dX0_steepAt_36 : decode cX0_steepAt 36 = .ok (.goto 4, 3) := by decide +kernel
theorem dX0_steepAt_39 : decode cX0_steepAt 39 = .ok (.iconst 0, 1) := by decide +kernel
theorem dX0_steepAt_40 : decode cX0_steepAt 40 = .ok (.ireturn, 1) := by decide +kernel
set_option maxRecDepth 20000 in
theorem ggX0_firstSteep_X0_steepAt : GoodIn wsX0_firstSteep wsX0_steepAt := goodIn_r _ [6, 7, 8, 9, 5, 10, 11, 12, 13, 14, 15, 1, 16, 17] (by decide +kernel) (by decide +kernel)
set_option maxRecDepth 20000 in
theorem gX0_firstSteep_X0_steepAt : GoodIn wsX0_firstSteep (wsV RX0 52 RX0 yX0_steepAt wsX0_steepAt) := goodIn_app (goodIn_of _ (by decide +kernel)) ggX0_firstSteep_X0_steepAt
theorem dX0_firstSteep_0 : decode cX0_firstSteep 0 = .ok (.iconst 0, 1) := by decide +kernel
theorem dX0_firstSteep_1 : decode cX0_firstSteep 1 = .ok (.istore_n 1, 1) := by decide +kernel
theorem dX0_firstSteep_2 : decode cX0_firstSteep 2 = .ok (.iload_n 1, 1) := by decide +kernel
theorem dX0_firstSteep_3 : decode cX0_firstSteep 3 = .ok (.aload_n 0, 1) := by decide +kernel
theorem dX0_firstSteep_4 : decode cX0_firstSteep 4 = .ok (.getfield 15, 3) := by decide +kernel
theorem dX0_firstSteep_7 : decode cX0_firstSteep 7 = .ok (.if_icmp .ge 19, 3) := by decide +kernel
theorem dX0_firstSteep_10 : decode cX0_firstSteep 10 = .ok (.aload_n 0, 1) := by decide +kernel
theorem dX0_firstSteep_11 : decode cX0_firstSteep 11 = .ok (.iload_n 1, 1) := by decide +kernel
theorem dX0_firstSteep_12 : decode cX0_firstSteep 12 = .ok (.invokevirtual 52, 3) := by decide +kernel
theorem dX0_firstSteep_15 : decode cX0_firstSteep 15 = .ok (.ifCond .eq 5, 3) := by decide +kernel
theorem dX0_firstSteep_18 : decode cX0_firstSteep 18 = .ok (.iload_n 1, 1) := by decide +kernel
theorem dX0_firstSteep_19 : decode cX0_firstSteep 19 = .ok (.ireturn, 1) := by decide +kernel
theorem dX0_firstSteep_20 : decode cX0_firstSteep 20 = .ok (.iinc 1 1, 3) := by decide +kernel
theorem dX0_firstSteep_23 : decode cX0_firstSteep 23 = .ok (.goto (-21), 3) := by decide +kernel
theorem dX0_firstSteep_26 : decode cX0_firstSteep 26 = .ok (.iconst (-1), 1) := by decide +kernel
theorem dX0_firstSteep_27 : decode cX0_firstSteep 27 = .ok (.ireturn, 1) := by decide +kernel
set_option maxRecDepth 20000 in
theorem ggX0_tiltOn_X0_onRing : GoodIn wsX0_tiltOn wsX0_onRing := goodIn_r _ [6, 1, 12, 13] (by decide +kernel) (by decide +kernel)
set_option maxRecDepth 20000 in
theorem gX0_tiltOn_X0_onRing : GoodIn wsX0_tiltOn (wsV RX0 30 RX0 yX0_onRing wsX0_onRing) := goodIn_app (goodIn_of _ (by decide +kernel)) ggX0_tiltOn_X0_onRing
set_option maxRecDepth 20000 in
theorem ggX0_tiltOn_X0_at : GoodIn wsX0_tiltOn wsX0_at := goodIn_r _ [10, 11, 12, 13] (by decide +kernel) (by decide +kernel)
set_option maxRecDepth 20000 in
theorem gX0_tiltOn_X0_at : GoodIn wsX0_tiltOn (wsV RX0 23 RX0 yX0_at wsX0_at) := goodIn_app (goodIn_of _ (by decide +kernel)) ggX0_tiltOn_X0_at
theorem dX0_tiltOn_0 : decode cX0_tiltOn 0 = .ok (.iconst 0, 1) := by decide +kernel
theorem dX0_tiltOn_1 : decode cX0_tiltOn 1 = .ok (.istore_n 2, 1) := by decide +kernel
theorem dX0_tiltOn_2 : decode cX0_tiltOn 2 = .ok (.iconst 1, 1) := by decide +kernel
theorem dX0_tiltOn_3 : decode cX0_tiltOn 3 = .ok (.istore_n 3, 1) := by decide +kernel
theorem dX0_tiltOn_4 : decode cX0_tiltOn 4 = .ok (.iload_n 3, 1) := by decide +kernel
theorem dX0_tiltOn_5 : decode cX0_tiltOn 5 = .ok (.aload_n 0, 1) := by decide +kernel
theorem dX0_tiltOn_6 : decode cX0_tiltOn 6 = .ok (.getfield 15, 3) := by decide +kernel
theorem dX0_tiltOn_9 : decode cX0_tiltOn 9 = .ok (.iconst 1, 1) := by decide +kernel
theorem dX0_tiltOn_10 : decode cX0_tiltOn 10 = .ok (.isub, 1) := by decide +kernel
theorem dX0_tiltOn_11 : decode cX0_tiltOn 11 = .ok (.iconst 2, 1) := by decide +kernel
theorem dX0_tiltOn_12 : decode cX0_tiltOn 12 = .ok (.idiv, 1) := by decide +kernel
theorem dX0_tiltOn_13 : decode cX0_tiltOn 13 = .ok (.if_icmp .gt 37, 3) := by decide +kernel
theorem dX0_tiltOn_16 : decode cX0_tiltOn 16 = .ok (.iload_n 2, 1) := by decide +kernel
theorem dX0_tiltOn_17 : decode cX0_tiltOn 17 = .ok (.aload_n 0, 1) := by decide +kernel
theorem dX0_tiltOn_18 : decode cX0_tiltOn 18 = .ok (.aload_n 0, 1) := by decide +kernel
theorem dX0_tiltOn_19 : decode cX0_tiltOn 19 = .ok (.iload_n 1, 1) := by decide +kernel
theorem dX0_tiltOn_20 : decode cX0_tiltOn 20 = .ok (.iload_n 3, 1) := by decide +kernel
theorem dX0_tiltOn_21 : decode cX0_tiltOn 21 = .ok (.iadd, 1) := by decide +kernel
theorem dX0_tiltOn_22 : decode cX0_tiltOn 22 = .ok (.invokevirtual 30, 3) := by decide +kernel
theorem dX0_tiltOn_25 : decode cX0_tiltOn 25 = .ok (.invokevirtual 23, 3) := by decide +kernel
theorem dX0_tiltOn_28 : decode cX0_tiltOn 28 = .ok (.aload_n 0, 1) := by decide +kernel
theorem dX0_tiltOn_29 : decode cX0_tiltOn 29 = .ok (.aload_n 0, 1) := by decide +kernel
theorem dX0_tiltOn_30 : decode cX0_tiltOn 30 = .ok (.iload_n 1, 1) := by decide +kernel
theorem dX0_tiltOn_31 : decode cX0_tiltOn 31 = .ok (.iload_n 3, 1) := by decide +kernel
theorem dX0_tiltOn_32 : decode cX0_tiltOn 32 = .ok (.isub, 1) := by decide +kernel
theorem dX0_tiltOn_33 : decode cX0_tiltOn 33 = .ok (.invokevirtual 30, 3) := by decide +kernel
theorem dX0_tiltOn_36 : decode cX0_tiltOn 36 = .ok (.invokevirtual 23, 3) := by decide +kernel
theorem dX0_tiltOn_39 : decode cX0_tiltOn 39 = .ok (.isub, 1) := by decide +kernel
theorem dX0_tiltOn_40 : decode cX0_tiltOn 40 = .ok (.iload_n 3, 1) := by decide +kernel
theorem dX0_tiltOn_41 : decode cX0_tiltOn 41 = .ok (.imul, 1) := by decide +kernel
theorem dX0_tiltOn_42 : decode cX0_tiltOn 42 = .ok (.iadd, 1) := by decide +kernel
theorem dX0_tiltOn_43 : decode cX0_tiltOn 43 = .ok (.istore_n 2, 1) := by decide +kernel
theorem dX0_tiltOn_44 : decode cX0_tiltOn 44 = .ok (.iinc 3 1, 3) := by decide +kernel
theorem dX0_tiltOn_47 : decode cX0_tiltOn 47 = .ok (.goto (-43), 3) := by decide +kernel
theorem dX0_tiltOn_50 : decode cX0_tiltOn 50 = .ok (.iload_n 2, 1) := by decide +kernel
theorem dX0_tiltOn_51 : decode cX0_tiltOn 51 = .ok (.ireturn, 1) := by decide +kernel
set_option maxRecDepth 20000 in
theorem ggX0_differencesFrom_X0_at : GoodIn wsX0_differencesFrom wsX0_at := goodIn_r _ [6, 7, 8, 9] (by decide +kernel) (by decide +kernel)
set_option maxRecDepth 20000 in
theorem gX0_differencesFrom_X0_at : GoodIn wsX0_differencesFrom (wsV RX0 23 RX0 yX0_at wsX0_at) := goodIn_app (goodIn_of _ (by decide +kernel)) ggX0_differencesFrom_X0_at
theorem dX0_differencesFrom_0 : decode cX0_differencesFrom 0 = .ok (.iconst 0, 1) := by decide +kernel
theorem dX0_differencesFrom_1 : decode cX0_differencesFrom 1 = .ok (.istore_n 2, 1) := by decide +kernel
theorem dX0_differencesFrom_2 : decode cX0_differencesFrom 2 = .ok (.iconst 0, 1) := by decide +kernel
theorem dX0_differencesFrom_3 : decode cX0_differencesFrom 3 = .ok (.istore_n 3, 1) := by decide +kernel
theorem dX0_differencesFrom_4 : decode cX0_differencesFrom 4 = .ok (.iload_n 3, 1) := by decide +kernel
theorem dX0_differencesFrom_5 : decode cX0_differencesFrom 5 = .ok (.aload_n 0, 1) := by decide +kernel
theorem dX0_differencesFrom_6 : decode cX0_differencesFrom 6 = .ok (.getfield 15, 3) := by decide +kernel
theorem dX0_differencesFrom_9 : decode cX0_differencesFrom 9 = .ok (.if_icmp .ge 25, 3) := by decide +kernel
theorem dX0_differencesFrom_12 : decode cX0_differencesFrom 12 = .ok (.aload_n 0, 1) := by decide +kernel
theorem dX0_differencesFrom_13 : decode cX0_differencesFrom 13 = .ok (.iload_n 3, 1) := by decide +kernel
theorem dX0_differencesFrom_14 : decode cX0_differencesFrom 14 = .ok (.invokevirtual 23, 3) := by decide +kernel
theorem dX0_differencesFrom_17 : decode cX0_differencesFrom 17 = .ok (.aload_n 1, 1) := by decide +kernel
theorem dX0_differencesFrom_18 : decode cX0_differencesFrom 18 = .ok (.iload_n 3, 1) := by decide +kernel
theorem dX0_differencesFrom_19 : decode cX0_differencesFrom 19 = .ok (.invokevirtual 23, 3) := by decide +kernel
theorem dX0_differencesFrom_22 : decode cX0_differencesFrom 22 = .ok (.if_icmp .eq 6, 3) := by decide +kernel
theorem dX0_differencesFrom_25 : decode cX0_differencesFrom 25 = .ok (.iinc 2 1, 3) := by decide +kernel
theorem dX0_differencesFrom_28 : decode cX0_differencesFrom 28 = .ok (.iinc 3 1, 3) := by decide +kernel
theorem dX0_differencesFrom_31 : decode cX0_differencesFrom 31 = .ok (.goto (-27), 3) := by decide +kernel
theorem dX0_differencesFrom_34 : decode cX0_differencesFrom 34 = .ok (.iload_n 2, 1) := by decide +kernel
theorem dX0_differencesFrom_35 : decode cX0_differencesFrom 35 = .ok (.ireturn, 1) := by decide +kernel
set_option maxRecDepth 20000 in
theorem ggX0_canBecome_X0_total : GoodIn wsX0_canBecome wsX0_total := goodIn_r _ [5, 6, 7, 8, 9, 4, 10, 11, 20, 21] (by decide +kernel) (by decide +kernel)
set_option maxRecDepth 20000 in
theorem gX0_canBecome_X0_total : GoodIn wsX0_canBecome (wsV RX0 56 RX0 yX0_total wsX0_total) := goodIn_app (goodIn_of _ (by decide +kernel)) ggX0_canBecome_X0_total
set_option maxRecDepth 20000 in
theorem ggX0_canBecome_X0_momentLeft : GoodIn wsX0_canBecome wsX0_momentLeft := goodIn_r _ [15, 6, 7, 8, 9, 4, 10, 11, 16, 17, 18, 19, 20, 21] (by decide +kernel) (by decide +kernel)
set_option maxRecDepth 20000 in
theorem gX0_canBecome_X0_momentLeft : GoodIn wsX0_canBecome (wsV RX0 59 RX0 yX0_momentLeft wsX0_momentLeft) := goodIn_app (goodIn_of _ (by decide +kernel)) ggX0_canBecome_X0_momentLeft
theorem dX0_canBecome_0 : decode cX0_canBecome 0 = .ok (.aload_n 0, 1) := by decide +kernel
theorem dX0_canBecome_1 : decode cX0_canBecome 1 = .ok (.invokevirtual 56, 3) := by decide +kernel
theorem dX0_canBecome_4 : decode cX0_canBecome 4 = .ok (.aload_n 1, 1) := by decide +kernel
theorem dX0_canBecome_5 : decode cX0_canBecome 5 = .ok (.invokevirtual 56, 3) := by decide +kernel
theorem dX0_canBecome_8 : decode cX0_canBecome 8 = .ok (.if_icmp .ne 18, 3) := by decide +kernel
theorem dX0_canBecome_11 : decode cX0_canBecome 11 = .ok (.aload_n 0, 1) := by decide +kernel
theorem dX0_canBecome_12 : decode cX0_canBecome 12 = .ok (.invokevirtual 59, 3) := by decide +kernel
theorem dX0_canBecome_15 : decode cX0_canBecome 15 = .ok (.aload_n 1, 1) := by decide +kernel
theorem dX0_canBecome_16 : decode cX0_canBecome 16 = .ok (.invokevirtual 59, 3) := by decide +kernel
theorem dX0_canBecome_19 : decode cX0_canBecome 19 = .ok (.if_icmp .ne 7, 3) := by decide +kernel
theorem dX0_canBecome_22 : decode cX0_canBecome 22 = .ok (.iconst 1, 1) := by decide +kernel
theorem dX0_canBecome_23 : decode cX0_canBecome 23 = .ok (.goto 4, 3) := by decide +kernel
theorem dX0_canBecome_26 : decode cX0_canBecome 26 = .ok (.iconst 0, 1) := by decide +kernel
theorem dX0_canBecome_27 : decode cX0_canBecome 27 = .ok (.ireturn, 1) := by decide +kernel
set_option maxRecDepth 20000 in
theorem ggX0_add_X0_at : GoodIn wsX0_add wsX0_at := goodIn_r _ [5, 6, 11, 12] (by decide +kernel) (by decide +kernel)
set_option maxRecDepth 20000 in
theorem gX0_add_X0_at : GoodIn wsX0_add (wsV RX0 23 RX0 yX0_at wsX0_at) := goodIn_app (goodIn_of _ (by decide +kernel)) ggX0_add_X0_at
set_option maxRecDepth 20000 in
theorem ggX0_add_X0_write : GoodIn wsX0_add wsX0_write := goodIn_r _ [10, 6, 11, 12] (by decide +kernel) (by decide +kernel)
set_option maxRecDepth 20000 in
theorem gX0_add_X0_write : GoodIn wsX0_add (wsV RX0 19 RX0 yX0_write wsX0_write) := goodIn_app (goodIn_of _ (by decide +kernel)) ggX0_add_X0_write
theorem dX0_add_0 : decode cX0_add 0 = .ok (.aload_n 0, 1) := by decide +kernel
theorem dX0_add_1 : decode cX0_add 1 = .ok (.iload_n 1, 1) := by decide +kernel
theorem dX0_add_2 : decode cX0_add 2 = .ok (.aload_n 0, 1) := by decide +kernel
theorem dX0_add_3 : decode cX0_add 3 = .ok (.iload_n 1, 1) := by decide +kernel
theorem dX0_add_4 : decode cX0_add 4 = .ok (.invokevirtual 23, 3) := by decide +kernel
theorem dX0_add_7 : decode cX0_add 7 = .ok (.iload_n 2, 1) := by decide +kernel
theorem dX0_add_8 : decode cX0_add 8 = .ok (.iadd, 1) := by decide +kernel
theorem dX0_add_9 : decode cX0_add 9 = .ok (.invokevirtual 19, 3) := by decide +kernel
theorem dX0_add_12 : decode cX0_add 12 = .ok (.return_, 1) := by decide +kernel
theorem dX0_onRing_0 : decode cX0_onRing 0 = .ok (.iload_n 1, 1) := by decide +kernel
theorem dX0_onRing_1 : decode cX0_onRing 1 = .ok (.ifCond .ge 10, 3) := by decide +kernel
theorem dX0_onRing_4 : decode cX0_onRing 4 = .ok (.iload_n 1, 1) := by decide +kernel
theorem dX0_onRing_5 : decode cX0_onRing 5 = .ok (.aload_n 0, 1) := by decide +kernel
theorem dX0_onRing_6 : decode cX0_onRing 6 = .ok (.getfield 15, 3) := by decide +kernel
theorem dX0_onRing_9 : decode cX0_onRing 9 = .ok (.iadd, 1) := by decide +kernel
theorem dX0_onRing_10 : decode cX0_onRing 10 = .ok (.ireturn, 1) := by decide +kernel
theorem dX0_onRing_11 : decode cX0_onRing 11 = .ok (.iload_n 1, 1) := by decide +kernel
theorem dX0_onRing_12 : decode cX0_onRing 12 = .ok (.aload_n 0, 1) := by decide +kernel
theorem dX0_onRing_13 : decode cX0_onRing 13 = .ok (.getfield 15, 3) := by decide +kernel
theorem dX0_onRing_16 : decode cX0_onRing 16 = .ok (.if_icmp .ge 7, 3) := by decide +kernel
theorem dX0_onRing_19 : decode cX0_onRing 19 = .ok (.iload_n 1, 1) := by decide +kernel
theorem dX0_onRing_20 : decode cX0_onRing 20 = .ok (.goto 9, 3) := by decide +kernel
theorem dX0_onRing_23 : decode cX0_onRing 23 = .ok (.iload_n 1, 1) := by decide +kernel
theorem dX0_onRing_24 : decode cX0_onRing 24 = .ok (.aload_n 0, 1) := by decide +kernel
theorem dX0_onRing_25 : decode cX0_onRing 25 = .ok (.getfield 15, 3) := by decide +kernel
theorem dX0_onRing_28 : decode cX0_onRing 28 = .ok (.isub, 1) := by decide +kernel
theorem dX0_onRing_29 : decode cX0_onRing 29 = .ok (.ireturn, 1) := by decide +kernel
theorem dX1_init_0 : decode cX1_init 0 = .ok (.aload_n 0, 1) := by decide +kernel
theorem dX1_init_1 : decode cX1_init 1 = .ok (.invokespecial 3, 3) := by decide +kernel
theorem dX1_init_4 : decode cX1_init 4 = .ok (.aload_n 0, 1) := by decide +kernel
theorem dX1_init_5 : decode cX1_init 5 = .ok (.bipush 12, 2) := by decide +kernel
theorem dX1_init_7 : decode cX1_init 7 = .ok (.newarray .int, 2) := by decide +kernel
theorem dX1_init_9 : decode cX1_init 9 = .ok (.putfield 9, 3) := by decide +kernel
theorem dX1_init_12 : decode cX1_init 12 = .ok (.aload_n 0, 1) := by decide +kernel
theorem dX1_init_13 : decode cX1_init 13 = .ok (.iconst 0, 1) := by decide +kernel
theorem dX1_init_14 : decode cX1_init 14 = .ok (.putfield 15, 3) := by decide +kernel
theorem dX1_init_17 : decode cX1_init 17 = .ok (.return_, 1) := by decide +kernel
set_option maxRecDepth 20000 in
theorem ggX1_find_X0_size : GoodIn wsX1_find wsX0_size := goodIn_r _ [7, 8, 21, 22] (by decide +kernel) (by decide +kernel)
set_option maxRecDepth 20000 in
theorem gX1_find_X0_size : GoodIn wsX1_find (wsV RX1 19 RX0 yX0_size wsX0_size) := goodIn_app (goodIn_of _ (by decide +kernel)) ggX1_find_X0_size
set_option maxRecDepth 20000 in
theorem ggX1_find_X1_firstClimb : GoodIn wsX1_find wsX1_firstClimb := goodIn_r _ [13, 1, 14, 15, 16, 6, 17, 18, 19, 20, 21, 22] (by decide +kernel) (by decide +kernel)
set_option maxRecDepth 20000 in
theorem gX1_find_X1_firstClimb : GoodIn wsX1_find (wsV RX1 24 RX1 yX1_firstClimb wsX1_firstClimb) := goodIn_app (goodIn_of _ (by decide +kernel)) ggX1_find_X1_firstClimb
set_option maxRecDepth 20000 in
theorem ggX1_find_X0_at : GoodIn wsX1_find wsX0_at := goodIn_r _ [17, 18, 21, 22] (by decide +kernel) (by decide +kernel)
set_option maxRecDepth 20000 in
theorem gX1_find_X0_at : GoodIn wsX1_find (wsV RX1 28 RX0 yX0_at wsX0_at) := goodIn_app (goodIn_of _ (by decide +kernel)) ggX1_find_X0_at
theorem dX1_find_0 : decode cX1_find 0 = .ok (.aload_n 0, 1) := by decide +kernel
theorem dX1_find_1 : decode cX1_find 1 = .ok (.aload_n 1, 1) := by decide +kernel
theorem dX1_find_2 : decode cX1_find 2 = .ok (.invokevirtual 19, 3) := by decide +kernel
theorem dX1_find_5 : decode cX1_find 5 = .ok (.putfield 15, 3) := by decide +kernel
theorem dX1_find_8 : decode cX1_find 8 = .ok (.aload_n 0, 1) := by decide +kernel
theorem dX1_find_9 : decode cX1_find 9 = .ok (.aload_n 1, 1) := by decide +kernel
theorem dX1_find_10 : decode cX1_find 10 = .ok (.aload_n 2, 1) := by decide +kernel
theorem dX1_find_11 : decode cX1_find 11 = .ok (.invokevirtual 24, 3) := by decide +kernel
theorem dX1_find_14 : decode cX1_find 14 = .ok (.istore_n 3, 1) := by decide +kernel
theorem dX1_find_15 : decode cX1_find 15 = .ok (.iconst 0, 1) := by decide +kernel
theorem dX1_find_16 : decode cX1_find 16 = .ok (.istore 4, 2) := by decide +kernel
theorem dX1_find_18 : decode cX1_find 18 = .ok (.iconst 0, 1) := by decide +kernel
theorem dX1_find_19 : decode cX1_find 19 = .ok (.istore 5, 2) := by decide +kernel
theorem dX1_find_21 : decode cX1_find 21 = .ok (.iload 5, 2) := by decide +kernel
theorem dX1_find_23 : decode cX1_find 23 = .ok (.aload_n 0, 1) := by decide +kernel
theorem dX1_find_24 : decode cX1_find 24 = .ok (.getfield 15, 3) := by decide +kernel
theorem dX1_find_27 : decode cX1_find 27 = .ok (.if_icmp .ge 59, 3) := by decide +kernel
theorem dX1_find_30 : decode cX1_find 30 = .ok (.iload 5, 2) := by decide +kernel
theorem dX1_find_32 : decode cX1_find 32 = .ok (.aload_n 0, 1) := by decide +kernel
theorem dX1_find_33 : decode cX1_find 33 = .ok (.getfield 9, 3) := by decide +kernel
theorem dX1_find_36 : decode cX1_find 36 = .ok (.arraylength, 1) := by decide +kernel
theorem dX1_find_37 : decode cX1_find 37 = .ok (.if_icmp .ge 49, 3) := by decide +kernel
theorem dX1_find_40 : decode cX1_find 40 = .ok (.aload_n 0, 1) := by decide +kernel
theorem dX1_find_41 : decode cX1_find 41 = .ok (.getfield 9, 3) := by decide +kernel
theorem dX1_find_44 : decode cX1_find 44 = .ok (.iload 5, 2) := by decide +kernel
theorem dX1_find_46 : decode cX1_find 46 = .ok (.iload 4, 2) := by decide +kernel
theorem dX1_find_48 : decode cX1_find 48 = .ok (.iastore, 1) := by decide +kernel
theorem dX1_find_49 : decode cX1_find 49 = .ok (.iload_n 3, 1) := by decide +kernel
theorem dX1_find_50 : decode cX1_find 50 = .ok (.iload 5, 2) := by decide +kernel
theorem dX1_find_52 : decode cX1_find 52 = .ok (.ifCond .ne 7, 3) := by decide +kernel
theorem dX1_find_55 : decode cX1_find 55 = .ok (.iconst 0, 1) := by decide +kernel
theorem dX1_find_56 : decode cX1_find 56 = .ok (.goto 16, 3) := by decide +kernel
theorem dX1_find_59 : decode cX1_find 59 = .ok (.aload_n 2, 1) := by decide +kernel
theorem dX1_find_60 : decode cX1_find 60 = .ok (.iload 5, 2) := by decide +kernel
theorem dX1_find_62 : decode cX1_find 62 = .ok (.invokevirtual 28, 3) := by decide +kernel
theorem dX1_find_65 : decode cX1_find 65 = .ok (.aload_n 1, 1) := by decide +kernel
theorem dX1_find_66 : decode cX1_find 66 = .ok (.iload 5, 2) := by decide +kernel
theorem dX1_find_68 : decode cX1_find 68 = .ok (.invokevirtual 28, 3) := by decide +kernel
theorem dX1_find_71 : decode cX1_find 71 = .ok (.isub, 1) := by decide +kernel
theorem dX1_find_72 : decode cX1_find 72 = .ok (.iadd, 1) := by decide +kernel
theorem dX1_find_73 : decode cX1_find 73 = .ok (.istore_n 3, 1) := by decide +kernel
theorem dX1_find_74 : decode cX1_find 74 = .ok (.iload 4, 2) := by decide +kernel
theorem dX1_find_76 : decode cX1_find 76 = .ok (.iload_n 3, 1) := by decide +kernel
theorem dX1_find_77 : decode cX1_find 77 = .ok (.iadd, 1) := by decide +kernel
theorem dX1_find_78 : decode cX1_find 78 = .ok (.istore 4, 2) := by decide +kernel
theorem dX1_find_80 : decode cX1_find 80 = .ok (.iinc 5 1, 3) := by decide +kernel
theorem dX1_find_83 : decode cX1_find 83 = .ok (.goto (-62), 3) := by decide +kernel
theorem dX1_find_86 : decode cX1_find 86 = .ok (.return_, 1) := by decide +kernel
theorem dX1_tipsAt_0 : decode cX1_tipsAt 0 = .ok (.iload_n 1, 1) := by decide +kernel
theorem dX1_tipsAt_1 : decode cX1_tipsAt 1 = .ok (.ifCond .lt 21, 3) := by decide +kernel
theorem dX1_tipsAt_4 : decode cX1_tipsAt 4 = .ok (.iload_n 1, 1) := by decide +kernel
theorem dX1_tipsAt_5 : decode cX1_tipsAt 5 = .ok (.aload_n 0, 1) := by decide +kernel
theorem dX1_tipsAt_6 : decode cX1_tipsAt 6 = .ok (.getfield 9, 3) := by decide +kernel
theorem dX1_tipsAt_9 : decode cX1_tipsAt 9 = .ok (.arraylength, 1) := by decide +kernel
theorem dX1_tipsAt_10 : decode cX1_tipsAt 10 = .ok (.if_icmp .ge 12, 3) := by decide +kernel
theorem dX1_tipsAt_13 : decode cX1_tipsAt 13 = .ok (.aload_n 0, 1) := by decide +kernel
theorem dX1_tipsAt_14 : decode cX1_tipsAt 14 = .ok (.getfield 9, 3) := by decide +kernel
theorem dX1_tipsAt_17 : decode cX1_tipsAt 17 = .ok (.iload_n 1, 1) := by decide +kernel
theorem dX1_tipsAt_18 : decode cX1_tipsAt 18 = .ok (.iaload, 1) := by decide +kernel
theorem dX1_tipsAt_19 : decode cX1_tipsAt 19 = .ok (.goto 4, 3) := by decide +kernel
theorem dX1_tipsAt_22 : decode cX1_tipsAt 22 = .ok (.iconst 0, 1) := by decide +kernel
theorem dX1_tipsAt_23 : decode cX1_tipsAt 23 = .ok (.ireturn, 1) := by decide +kernel
set_option maxRecDepth 20000 in
theorem ggX1_fewest_X1_tipsAt : GoodIn wsX1_fewest wsX1_tipsAt := goodIn_r _ [10, 11, 19, 20] (by decide +kernel) (by decide +kernel)
set_option maxRecDepth 20000 in
theorem gX1_fewest_X1_tipsAt : GoodIn wsX1_fewest (wsV RX1 32 RX1 yX1_tipsAt wsX1_tipsAt) := goodIn_app (goodIn_of _ (by decide +kernel)) ggX1_fewest_X1_tipsAt
set_option maxRecDepth 20000 in
theorem ggX1_fewest_X1_awayFrom : GoodIn wsX1_fewest wsX1_awayFrom := goodIn_r _ [15, 1, 16, 17, 4, 18, 6, 7, 8, 9, 10, 11, 19, 20] (by decide +kernel) (by decide +kernel)
set_option maxRecDepth 20000 in
theorem gX1_fewest_X1_awayFrom : GoodIn wsX1_fewest (wsV RX1 35 RX1 yX1_awayFrom wsX1_awayFrom) := goodIn_app (goodIn_of _ (by decide +kernel)) ggX1_fewest_X1_awayFrom
theorem dX1_fewest_0 : decode cX1_fewest 0 = .ok (.aload_n 0, 1) := by decide +kernel
theorem dX1_fewest_1 : decode cX1_fewest 1 = .ok (.aload_n 0, 1) := by decide +kernel
theorem dX1_fewest_2 : decode cX1_fewest 2 = .ok (.iconst 0, 1) := by decide +kernel
theorem dX1_fewest_3 : decode cX1_fewest 3 = .ok (.invokevirtual 32, 3) := by decide +kernel
theorem dX1_fewest_6 : decode cX1_fewest 6 = .ok (.invokevirtual 35, 3) := by decide +kernel
theorem dX1_fewest_9 : decode cX1_fewest 9 = .ok (.istore_n 1, 1) := by decide +kernel
theorem dX1_fewest_10 : decode cX1_fewest 10 = .ok (.iconst 1, 1) := by decide +kernel
theorem dX1_fewest_11 : decode cX1_fewest 11 = .ok (.istore_n 2, 1) := by decide +kernel
theorem dX1_fewest_12 : decode cX1_fewest 12 = .ok (.iload_n 2, 1) := by decide +kernel
theorem dX1_fewest_13 : decode cX1_fewest 13 = .ok (.aload_n 0, 1) := by decide +kernel
theorem dX1_fewest_14 : decode cX1_fewest 14 = .ok (.getfield 15, 3) := by decide +kernel
theorem dX1_fewest_17 : decode cX1_fewest 17 = .ok (.if_icmp .ge 23, 3) := by decide +kernel
theorem dX1_fewest_20 : decode cX1_fewest 20 = .ok (.iload_n 1, 1) := by decide +kernel
theorem dX1_fewest_21 : decode cX1_fewest 21 = .ok (.aload_n 0, 1) := by decide +kernel
theorem dX1_fewest_22 : decode cX1_fewest 22 = .ok (.aload_n 0, 1) := by decide +kernel
theorem dX1_fewest_23 : decode cX1_fewest 23 = .ok (.iload_n 2, 1) := by decide +kernel
theorem dX1_fewest_24 : decode cX1_fewest 24 = .ok (.invokevirtual 32, 3) := by decide +kernel
theorem dX1_fewest_27 : decode cX1_fewest 27 = .ok (.invokevirtual 35, 3) := by decide +kernel
theorem dX1_fewest_30 : decode cX1_fewest 30 = .ok (.invokestatic 38, 3) := by decide +kernel
theorem dX1_fewest_33 : decode cX1_fewest 33 = .ok (.istore_n 1, 1) := by decide +kernel
theorem dX1_fewest_34 : decode cX1_fewest 34 = .ok (.iinc 2 1, 3) := by decide +kernel
theorem dX1_fewest_37 : decode cX1_fewest 37 = .ok (.goto (-25), 3) := by decide +kernel
theorem dX1_fewest_40 : decode cX1_fewest 40 = .ok (.iload_n 1, 1) := by decide +kernel
theorem dX1_fewest_41 : decode cX1_fewest 41 = .ok (.ireturn, 1) := by decide +kernel
set_option maxRecDepth 20000 in
theorem ggX1_firstClimb_X0_at : GoodIn wsX1_firstClimb wsX0_at := goodIn_r _ [6, 7, 10, 11] (by decide +kernel) (by decide +kernel)
set_option maxRecDepth 20000 in
theorem gX1_firstClimb_X0_at : GoodIn wsX1_firstClimb (wsV RX1 28 RX0 yX0_at wsX0_at) := goodIn_app (goodIn_of _ (by decide +kernel)) ggX1_firstClimb_X0_at
theorem dX1_firstClimb_0 : decode cX1_firstClimb 0 = .ok (.iconst 0, 1) := by decide +kernel
theorem dX1_firstClimb_1 : decode cX1_firstClimb 1 = .ok (.istore_n 3, 1) := by decide +kernel
theorem dX1_firstClimb_2 : decode cX1_firstClimb 2 = .ok (.iconst 1, 1) := by decide +kernel
theorem dX1_firstClimb_3 : decode cX1_firstClimb 3 = .ok (.istore 4, 2) := by decide +kernel
theorem dX1_firstClimb_5 : decode cX1_firstClimb 5 = .ok (.iload 4, 2) := by decide +kernel
theorem dX1_firstClimb_7 : decode cX1_firstClimb 7 = .ok (.aload_n 0, 1) := by decide +kernel
theorem dX1_firstClimb_8 : decode cX1_firstClimb 8 = .ok (.getfield 15, 3) := by decide +kernel
theorem dX1_firstClimb_11 : decode cX1_firstClimb 11 = .ok (.if_icmp .ge 33, 3) := by decide +kernel
theorem dX1_firstClimb_14 : decode cX1_firstClimb 14 = .ok (.iload_n 3, 1) := by decide +kernel
theorem dX1_firstClimb_15 : decode cX1_firstClimb 15 = .ok (.aload_n 2, 1) := by decide +kernel
theorem dX1_firstClimb_16 : decode cX1_firstClimb 16 = .ok (.iload 4, 2) := by decide +kernel
theorem dX1_firstClimb_18 : decode cX1_firstClimb 18 = .ok (.invokevirtual 28, 3) := by decide +kernel
theorem dX1_firstClimb_21 : decode cX1_firstClimb 21 = .ok (.aload_n 1, 1) := by decide +kernel
theorem dX1_firstClimb_22 : decode cX1_firstClimb 22 = .ok (.iload 4, 2) := by decide +kernel
theorem dX1_firstClimb_24 : decode cX1_firstClimb 24 = .ok (.invokevirtual 28, 3) := by decide +kernel
theorem dX1_firstClimb_27 : decode cX1_firstClimb 27 = .ok (.isub, 1) := by decide +kernel
theorem dX1_firstClimb_28 : decode cX1_firstClimb 28 = .ok (.aload_n 0, 1) := by decide +kernel
theorem dX1_firstClimb_29 : decode cX1_firstClimb 29 = .ok (.getfield 15, 3) := by decide +kernel
theorem dX1_firstClimb_32 : decode cX1_firstClimb 32 = .ok (.iload 4, 2) := by decide +kernel
theorem dX1_firstClimb_34 : decode cX1_firstClimb 34 = .ok (.isub, 1) := by decide +kernel
theorem dX1_firstClimb_35 : decode cX1_firstClimb 35 = .ok (.imul, 1) := by decide +kernel
theorem dX1_firstClimb_36 : decode cX1_firstClimb 36 = .ok (.iadd, 1) := by decide +kernel
theorem dX1_firstClimb_37 : decode cX1_firstClimb 37 = .ok (.istore_n 3, 1) := by decide +kernel
theorem dX1_firstClimb_38 : decode cX1_firstClimb 38 = .ok (.iinc 4 1, 3) := by decide +kernel
theorem dX1_firstClimb_41 : decode cX1_firstClimb 41 = .ok (.goto (-36), 3) := by decide +kernel
theorem dX1_firstClimb_44 : decode cX1_firstClimb 44 = .ok (.aload_n 0, 1) := by decide +kernel
theorem dX1_firstClimb_45 : decode cX1_firstClimb 45 = .ok (.getfield 15, 3) := by decide +kernel
theorem dX1_firstClimb_48 : decode cX1_firstClimb 48 = .ok (.ifCond .le 13, 3) := by decide +kernel
theorem dX1_firstClimb_51 : decode cX1_firstClimb 51 = .ok (.iload_n 3, 1) := by decide +kernel
theorem dX1_firstClimb_52 : decode cX1_firstClimb 52 = .ok (.ineg, 1) := by decide +kernel
theorem dX1_firstClimb_53 : decode cX1_firstClimb 53 = .ok (.aload_n 0, 1) := by decide +kernel
theorem dX1_firstClimb_54 : decode cX1_firstClimb 54 = .ok (.getfield 15, 3) := by decide +kernel
theorem dX1_firstClimb_57 : decode cX1_firstClimb 57 = .ok (.idiv, 1) := by decide +kernel
theorem dX1_firstClimb_58 : decode cX1_firstClimb 58 = .ok (.goto 4, 3) := by decide +kernel
theorem dX1_firstClimb_61 : decode cX1_firstClimb 61 = .ok (.iconst 0, 1) := by decide +kernel
theorem dX1_firstClimb_62 : decode cX1_firstClimb 62 = .ok (.ireturn, 1) := by decide +kernel
set_option maxRecDepth 20000 in
theorem ggX1_awayFrom_X1_tipsAt : GoodIn wsX1_awayFrom wsX1_tipsAt := goodIn_r _ [10, 11, 12, 13] (by decide +kernel) (by decide +kernel)
set_option maxRecDepth 20000 in
theorem gX1_awayFrom_X1_tipsAt : GoodIn wsX1_awayFrom (wsV RX1 32 RX1 yX1_tipsAt wsX1_tipsAt) := goodIn_app (goodIn_of _ (by decide +kernel)) ggX1_awayFrom_X1_tipsAt
theorem dX1_awayFrom_0 : decode cX1_awayFrom 0 = .ok (.iconst 0, 1) := by decide +kernel
theorem dX1_awayFrom_1 : decode cX1_awayFrom 1 = .ok (.istore_n 2, 1) := by decide +kernel
theorem dX1_awayFrom_2 : decode cX1_awayFrom 2 = .ok (.iconst 0, 1) := by decide +kernel
theorem dX1_awayFrom_3 : decode cX1_awayFrom 3 = .ok (.istore_n 3, 1) := by decide +kernel
theorem dX1_awayFrom_4 : decode cX1_awayFrom 4 = .ok (.iload_n 3, 1) := by decide +kernel
theorem dX1_awayFrom_5 : decode cX1_awayFrom 5 = .ok (.aload_n 0, 1) := by decide +kernel
theorem dX1_awayFrom_6 : decode cX1_awayFrom 6 = .ok (.getfield 15, 3) := by decide +kernel
theorem dX1_awayFrom_9 : decode cX1_awayFrom 9 = .ok (.if_icmp .ge 22, 3) := by decide +kernel
theorem dX1_awayFrom_12 : decode cX1_awayFrom 12 = .ok (.iload_n 2, 1) := by decide +kernel
theorem dX1_awayFrom_13 : decode cX1_awayFrom 13 = .ok (.aload_n 0, 1) := by decide +kernel
theorem dX1_awayFrom_14 : decode cX1_awayFrom 14 = .ok (.iload_n 3, 1) := by decide +kernel
theorem dX1_awayFrom_15 : decode cX1_awayFrom 15 = .ok (.invokevirtual 32, 3) := by decide +kernel
theorem dX1_awayFrom_18 : decode cX1_awayFrom 18 = .ok (.iload_n 1, 1) := by decide +kernel
theorem dX1_awayFrom_19 : decode cX1_awayFrom 19 = .ok (.isub, 1) := by decide +kernel
theorem dX1_awayFrom_20 : decode cX1_awayFrom 20 = .ok (.invokestatic 44, 3) := by decide +kernel
theorem dX1_awayFrom_23 : decode cX1_awayFrom 23 = .ok (.iadd, 1) := by decide +kernel
theorem dX1_awayFrom_24 : decode cX1_awayFrom 24 = .ok (.istore_n 2, 1) := by decide +kernel
theorem dX1_awayFrom_25 : decode cX1_awayFrom 25 = .ok (.iinc 3 1, 3) := by decide +kernel
theorem dX1_awayFrom_28 : decode cX1_awayFrom 28 = .ok (.goto (-24), 3) := by decide +kernel
theorem dX1_awayFrom_31 : decode cX1_awayFrom 31 = .ok (.iload_n 2, 1) := by decide +kernel
theorem dX1_awayFrom_32 : decode cX1_awayFrom 32 = .ok (.ireturn, 1) := by decide +kernel
set_option maxRecDepth 20000 in
theorem ggX2_init_X0_init : GoodIn wsX2_init wsX0_init := goodIn_r _ [17, 18, 2, 3, 19, 20, 21, 27, 28] (by decide +kernel) (by decide +kernel)
set_option maxRecDepth 20000 in
theorem gX2_init_X0_init_n9 : GoodIn wsX2_init (wsX0_init) := ggX2_init_X0_init
set_option maxRecDepth 20000 in
theorem ggX2_init_X1_init : GoodIn wsX2_init wsX1_init := goodIn_r _ [23, 24, 2, 3, 19, 25, 26, 35, 36] (by decide +kernel) (by decide +kernel)
set_option maxRecDepth 20000 in
theorem gX2_init_X1_init_n32 : GoodIn wsX2_init (wsX1_init) := ggX2_init_X1_init
theorem dX2_init_0 : decode cX2_init 0 = .ok (.aload_n 0, 1) := by decide +kernel
theorem dX2_init_1 : decode cX2_init 1 = .ok (.invokespecial 1, 3) := by decide +kernel
theorem dX2_init_4 : decode cX2_init 4 = .ok (.aload_n 0, 1) := by decide +kernel
theorem dX2_init_5 : decode cX2_init 5 = .ok (.new 7, 3) := by decide +kernel
theorem dX2_init_8 : decode cX2_init 8 = .ok (.dup, 1) := by decide +kernel
theorem dX2_init_9 : decode cX2_init 9 = .ok (.invokespecial 9, 3) := by decide +kernel
theorem dX2_init_12 : decode cX2_init 12 = .ok (.putfield 10, 3) := by decide +kernel
theorem dX2_init_15 : decode cX2_init 15 = .ok (.aload_n 0, 1) := by decide +kernel
theorem dX2_init_16 : decode cX2_init 16 = .ok (.bipush 6, 2) := by decide +kernel
theorem dX2_init_18 : decode cX2_init 18 = .ok (.anewarray 7, 3) := by decide +kernel
theorem dX2_init_21 : decode cX2_init 21 = .ok (.putfield 16, 3) := by decide +kernel
theorem dX2_init_24 : decode cX2_init 24 = .ok (.aload_n 0, 1) := by decide +kernel
theorem dX2_init_25 : decode cX2_init 25 = .ok (.iconst 0, 1) := by decide +kernel
theorem dX2_init_26 : decode cX2_init 26 = .ok (.putfield 20, 3) := by decide +kernel
theorem dX2_init_29 : decode cX2_init 29 = .ok (.aload_n 0, 1) := by decide +kernel
theorem dX2_init_30 : decode cX2_init 30 = .ok (.iconst 0, 1) := by decide +kernel
theorem dX2_init_31 : decode cX2_init 31 = .ok (.putfield 24, 3) := by decide +kernel
theorem dX2_init_34 : decode cX2_init 34 = .ok (.aload_n 0, 1) := by decide +kernel
theorem dX2_init_35 : decode cX2_init 35 = .ok (.new 7, 3) := by decide +kernel
theorem dX2_init_38 : decode cX2_init 38 = .ok (.dup, 1) := by decide +kernel
theorem dX2_init_39 : decode cX2_init 39 = .ok (.invokespecial 9, 3) := by decide +kernel
theorem dX2_init_42 : decode cX2_init 42 = .ok (.putfield 27, 3) := by decide +kernel
theorem dX2_init_45 : decode cX2_init 45 = .ok (.aload_n 0, 1) := by decide +kernel
theorem dX2_init_46 : decode cX2_init 46 = .ok (.new 30, 3) := by decide +kernel
theorem dX2_init_49 : decode cX2_init 49 = .ok (.dup, 1) := by decide +kernel
theorem dX2_init_50 : decode cX2_init 50 = .ok (.invokespecial 32, 3) := by decide +kernel
theorem dX2_init_53 : decode cX2_init 53 = .ok (.putfield 33, 3) := by decide +kernel
theorem dX2_init_56 : decode cX2_init 56 = .ok (.iconst 0, 1) := by decide +kernel
theorem dX2_init_57 : decode cX2_init 57 = .ok (.istore_n 1, 1) := by decide +kernel
theorem dX2_init_58 : decode cX2_init 58 = .ok (.iload_n 1, 1) := by decide +kernel
theorem dX2_init_59 : decode cX2_init 59 = .ok (.aload_n 0, 1) := by decide +kernel
theorem dX2_init_60 : decode cX2_init 60 = .ok (.getfield 16, 3) := by decide +kernel
theorem dX2_init_63 : decode cX2_init 63 = .ok (.arraylength, 1) := by decide +kernel
theorem dX2_init_64 : decode cX2_init 64 = .ok (.if_icmp .ge 22, 3) := by decide +kernel
theorem dX2_init_67 : decode cX2_init 67 = .ok (.aload_n 0, 1) := by decide +kernel
theorem dX2_init_68 : decode cX2_init 68 = .ok (.getfield 16, 3) := by decide +kernel
theorem dX2_init_71 : decode cX2_init 71 = .ok (.iload_n 1, 1) := by decide +kernel
theorem dX2_init_72 : decode cX2_init 72 = .ok (.new 7, 3) := by decide +kernel
theorem dX2_init_75 : decode cX2_init 75 = .ok (.dup, 1) := by decide +kernel
theorem dX2_init_76 : decode cX2_init 76 = .ok (.invokespecial 9, 3) := by decide +kernel
theorem dX2_init_79 : decode cX2_init 79 = .ok (.aastore, 1) := by decide +kernel
theorem dX2_init_80 : decode cX2_init 80 = .ok (.iinc 1 1, 3) := by decide +kernel
theorem dX2_init_83 : decode cX2_init 83 = .ok (.goto (-25), 3) := by decide +kernel
theorem dX2_init_86 : decode cX2_init 86 = .ok (.return_, 1) := by decide +kernel
set_option maxRecDepth 20000 in
theorem ggX2_lay_X0_size : GoodIn wsX2_lay wsX0_size := goodIn_r _ [9, 10, 26, 27] (by decide +kernel) (by decide +kernel)
set_option maxRecDepth 20000 in
theorem gX2_lay_X0_size : GoodIn wsX2_lay (wsV RX2 44 RX0 yX0_size wsX0_size) := goodIn_app (goodIn_of _ (by decide +kernel)) ggX2_lay_X0_size
set_option maxRecDepth 20000 in
theorem ggX2_lay_X0_clear : GoodIn wsX2_lay wsX0_clear := goodIn_r _ [14, 10, 15, 16, 17, 18, 8, 19, 26, 27] (by decide +kernel) (by decide +kernel)
set_option maxRecDepth 20000 in
theorem gX2_lay_X0_clear : GoodIn wsX2_lay (wsV RX2 48 RX0 yX0_clear wsX0_clear) := goodIn_app (goodIn_of _ (by decide +kernel)) ggX2_lay_X0_clear
theorem dX2_lay_0 : decode cX2_lay 0 = .ok (.iload_n 1, 1) := by decide +kernel
theorem dX2_lay_1 : decode cX2_lay 1 = .ok (.iconst 3, 1) := by decide +kernel
theorem dX2_lay_2 : decode cX2_lay 2 = .ok (.if_icmp .lt 9, 3) := by decide +kernel
theorem dX2_lay_5 : decode cX2_lay 5 = .ok (.iload_n 1, 1) := by decide +kernel
theorem dX2_lay_6 : decode cX2_lay 6 = .ok (.bipush 12, 2) := by decide +kernel
theorem dX2_lay_8 : decode cX2_lay 8 = .ok (.if_icmp .le 13, 3) := by decide +kernel
theorem dX2_lay_11 : decode cX2_lay 11 = .ok (.new 37, 3) := by decide +kernel
theorem dX2_lay_14 : decode cX2_lay 14 = .ok (.dup, 1) := by decide +kernel
theorem dX2_lay_15 : decode cX2_lay 15 = .ok (.ldc 39, 2) := by decide +kernel
theorem dX2_lay_17 : decode cX2_lay 17 = .ok (.invokespecial 41, 3) := by decide +kernel
theorem dX2_lay_20 : decode cX2_lay 20 = .ok (.athrow, 1) := by decide +kernel
theorem dX2_lay_21 : decode cX2_lay 21 = .ok (.aload_n 0, 1) := by decide +kernel
theorem dX2_lay_22 : decode cX2_lay 22 = .ok (.getfield 10, 3) := by decide +kernel
theorem dX2_lay_25 : decode cX2_lay 25 = .ok (.invokevirtual 44, 3) := by decide +kernel
theorem dX2_lay_28 : decode cX2_lay 28 = .ok (.istore_n 2, 1) := by decide +kernel
theorem dX2_lay_29 : decode cX2_lay 29 = .ok (.aload_n 0, 1) := by decide +kernel
theorem dX2_lay_30 : decode cX2_lay 30 = .ok (.getfield 10, 3) := by decide +kernel
theorem dX2_lay_33 : decode cX2_lay 33 = .ok (.iload_n 1, 1) := by decide +kernel
theorem dX2_lay_34 : decode cX2_lay 34 = .ok (.invokevirtual 48, 3) := by decide +kernel
theorem dX2_lay_37 : decode cX2_lay 37 = .ok (.aload_n 0, 1) := by decide +kernel
theorem dX2_lay_38 : decode cX2_lay 38 = .ok (.iconst 0, 1) := by decide +kernel
theorem dX2_lay_39 : decode cX2_lay 39 = .ok (.putfield 20, 3) := by decide +kernel
theorem dX2_lay_42 : decode cX2_lay 42 = .ok (.iload_n 2, 1) := by decide +kernel
theorem dX2_lay_43 : decode cX2_lay 43 = .ok (.ireturn, 1) := by decide +kernel
set_option maxRecDepth 20000 in
theorem ggX2_put_X2_requirePlace : GoodIn wsX2_put wsX2_requirePlace := goodIn_ca (goodIn_r _ [6, 7, 8, 1, 9, 10, 11, 12, 13, 14, 30, 31, 32, 33, 34, 35, 36, 37] (by decide +kernel) (by decide +kernel)) (goodIn_sub (fun _ h => List.mem_cons_of_mem _ (List.mem_append_left _ (List.mem_append_right _ h))) (by decide +kernel))
set_option maxRecDepth 20000 in
theorem gX2_put_X2_requirePlace : GoodIn wsX2_put (wsV RX2 52 RX2 yX2_requirePlace wsX2_requirePlace) := goodIn_app (goodIn_of _ (by decide +kernel)) ggX2_put_X2_requirePlace
set_option maxRecDepth 20000 in
theorem ggX2_put_X2_requireNumber : GoodIn wsX2_put wsX2_requireNumber := goodIn_ca (goodIn_r _ [18, 19, 20] (by decide +kernel) (by decide +kernel)) (goodIn_sub (fun _ h => List.mem_cons_of_mem _ (List.mem_append_right _ h)) (by decide +kernel))
set_option maxRecDepth 20000 in
theorem gX2_put_X2_requireNumber : GoodIn wsX2_put (wsV RX2 55 RX2 yX2_requireNumber wsX2_requireNumber) := goodIn_app (goodIn_of _ (by decide +kernel)) ggX2_put_X2_requireNumber
set_option maxRecDepth 20000 in
theorem ggX2_put_X0_at : GoodIn wsX2_put wsX0_at := goodIn_r _ [24, 25, 36, 37] (by decide +kernel) (by decide +kernel)
set_option maxRecDepth 20000 in
theorem gX2_put_X0_at : GoodIn wsX2_put (wsV RX2 58 RX0 yX0_at wsX0_at) := goodIn_app (goodIn_of _ (by decide +kernel)) ggX2_put_X0_at
set_option maxRecDepth 20000 in
theorem ggX2_put_X0_write : GoodIn wsX2_put wsX0_write := goodIn_r _ [29, 25, 36, 37] (by decide +kernel) (by decide +kernel)
set_option maxRecDepth 20000 in
theorem gX2_put_X0_write : GoodIn wsX2_put (wsV RX2 62 RX0 yX0_write wsX0_write) := goodIn_app (goodIn_of _ (by decide +kernel)) ggX2_put_X0_write
theorem dX2_put_0 : decode cX2_put 0 = .ok (.aload_n 0, 1) := by decide +kernel
theorem dX2_put_1 : decode cX2_put 1 = .ok (.iload_n 1, 1) := by decide +kernel
theorem dX2_put_2 : decode cX2_put 2 = .ok (.invokevirtual 52, 3) := by decide +kernel
theorem dX2_put_5 : decode cX2_put 5 = .ok (.aload_n 0, 1) := by decide +kernel
theorem dX2_put_6 : decode cX2_put 6 = .ok (.iload_n 2, 1) := by decide +kernel
theorem dX2_put_7 : decode cX2_put 7 = .ok (.invokevirtual 55, 3) := by decide +kernel
theorem dX2_put_10 : decode cX2_put 10 = .ok (.aload_n 0, 1) := by decide +kernel
theorem dX2_put_11 : decode cX2_put 11 = .ok (.getfield 10, 3) := by decide +kernel
theorem dX2_put_14 : decode cX2_put 14 = .ok (.iload_n 1, 1) := by decide +kernel
theorem dX2_put_15 : decode cX2_put 15 = .ok (.invokevirtual 58, 3) := by decide +kernel
theorem dX2_put_18 : decode cX2_put 18 = .ok (.istore_n 3, 1) := by decide +kernel
theorem dX2_put_19 : decode cX2_put 19 = .ok (.aload_n 0, 1) := by decide +kernel
theorem dX2_put_20 : decode cX2_put 20 = .ok (.getfield 10, 3) := by decide +kernel
theorem dX2_put_23 : decode cX2_put 23 = .ok (.iload_n 1, 1) := by decide +kernel
theorem dX2_put_24 : decode cX2_put 24 = .ok (.iload_n 2, 1) := by decide +kernel
theorem dX2_put_25 : decode cX2_put 25 = .ok (.invokevirtual 62, 3) := by decide +kernel
theorem dX2_put_28 : decode cX2_put 28 = .ok (.iload_n 3, 1) := by decide +kernel
theorem dX2_put_29 : decode cX2_put 29 = .ok (.ireturn, 1) := by decide +kernel
set_option maxRecDepth 20000 in
theorem ggX2_tip_X2_requirePlace : GoodIn wsX2_tip wsX2_requirePlace := goodIn_ca (goodIn_r _ [11, 12, 13, 1, 14, 15, 16, 17, 18, 19, 48, 49, 50, 51, 52, 53, 54, 55] (by decide +kernel) (by decide +kernel)) (goodIn_sub (fun _ h => List.mem_cons_of_mem _ (List.mem_append_left _ (List.mem_append_right _ h))) (by decide +kernel))
set_option maxRecDepth 20000 in
theorem gX2_tip_X2_requirePlace : GoodIn wsX2_tip (wsV RX2 52 RX2 yX2_requirePlace wsX2_requirePlace) := goodIn_app (goodIn_of _ (by decide +kernel)) ggX2_tip_X2_requirePlace
set_option maxRecDepth 20000 in
theorem ggX2_tip_X2_requireTimes : GoodIn wsX2_tip wsX2_requireTimes := goodIn_ca (goodIn_r _ [23, 24, 25] (by decide +kernel) (by decide +kernel)) (goodIn_sub (fun _ h => List.mem_cons_of_mem _ (List.mem_append_right _ h)) (by decide +kernel))
set_option maxRecDepth 20000 in
theorem gX2_tip_X2_requireTimes : GoodIn wsX2_tip (wsV RX2 66 RX2 yX2_requireTimes wsX2_requireTimes) := goodIn_app (goodIn_of _ (by decide +kernel)) ggX2_tip_X2_requireTimes
set_option maxRecDepth 20000 in
theorem ggX2_tip_X0_tipBy : GoodIn wsX2_tip wsX0_tipBy := goodIn_r _ [29, 30, 31, 32, 17, 33, 34, 35, 36, 37, 38, 39, 40, 41, 42, 43, 44, 45, 46, 19, 54, 55] (by decide +kernel) (by decide +kernel)
set_option maxRecDepth 20000 in
theorem gX2_tip_X0_tipBy : GoodIn wsX2_tip (wsV RX2 69 RX0 yX0_tipBy wsX0_tipBy) := goodIn_app (goodIn_of _ (by decide +kernel)) ggX2_tip_X0_tipBy
set_option maxRecDepth 20000 in
theorem ggX2_tip_X0_at : GoodIn wsX2_tip wsX0_at := goodIn_r _ [37, 38, 54, 55] (by decide +kernel) (by decide +kernel)
set_option maxRecDepth 20000 in
theorem gX2_tip_X0_at : GoodIn wsX2_tip (wsV RX2 58 RX0 yX0_at wsX0_at) := goodIn_app (goodIn_of _ (by decide +kernel)) ggX2_tip_X0_at
theorem dX2_tip_0 : decode cX2_tip 0 = .ok (.aload_n 0, 1) := by decide +kernel
theorem dX2_tip_1 : decode cX2_tip 1 = .ok (.iload_n 1, 1) := by decide +kernel
theorem dX2_tip_2 : decode cX2_tip 2 = .ok (.invokevirtual 52, 3) := by decide +kernel
theorem dX2_tip_5 : decode cX2_tip 5 = .ok (.aload_n 0, 1) := by decide +kernel
theorem dX2_tip_6 : decode cX2_tip 6 = .ok (.iload_n 2, 1) := by decide +kernel
theorem dX2_tip_7 : decode cX2_tip 7 = .ok (.invokevirtual 66, 3) := by decide +kernel
theorem dX2_tip_10 : decode cX2_tip 10 = .ok (.aload_n 0, 1) := by decide +kernel
theorem dX2_tip_11 : decode cX2_tip 11 = .ok (.getfield 10, 3) := by decide +kernel
theorem dX2_tip_14 : decode cX2_tip 14 = .ok (.iload_n 1, 1) := by decide +kernel
theorem dX2_tip_15 : decode cX2_tip 15 = .ok (.iload_n 2, 1) := by decide +kernel
theorem dX2_tip_16 : decode cX2_tip 16 = .ok (.invokevirtual 69, 3) := by decide +kernel
theorem dX2_tip_19 : decode cX2_tip 19 = .ok (.aload_n 0, 1) := by decide +kernel
theorem dX2_tip_20 : decode cX2_tip 20 = .ok (.dup, 1) := by decide +kernel
theorem dX2_tip_21 : decode cX2_tip 21 = .ok (.getfield 24, 3) := by decide +kernel
theorem dX2_tip_24 : decode cX2_tip 24 = .ok (.iload_n 2, 1) := by decide +kernel
theorem dX2_tip_25 : decode cX2_tip 25 = .ok (.invokestatic 72, 3) := by decide +kernel
theorem dX2_tip_28 : decode cX2_tip 28 = .ok (.iadd, 1) := by decide +kernel
theorem dX2_tip_29 : decode cX2_tip 29 = .ok (.putfield 24, 3) := by decide +kernel
theorem dX2_tip_32 : decode cX2_tip 32 = .ok (.aload_n 0, 1) := by decide +kernel
theorem dX2_tip_33 : decode cX2_tip 33 = .ok (.getfield 10, 3) := by decide +kernel
theorem dX2_tip_36 : decode cX2_tip 36 = .ok (.iload_n 1, 1) := by decide +kernel
theorem dX2_tip_37 : decode cX2_tip 37 = .ok (.invokevirtual 58, 3) := by decide +kernel
theorem dX2_tip_40 : decode cX2_tip 40 = .ok (.ireturn, 1) := by decide +kernel
set_option maxRecDepth 20000 in
theorem ggX2_turn_X0_rotate : GoodIn wsX2_turn wsX0_rotate := goodIn_r _ [6, 7, 8, 9, 10, 5, 11, 12, 13, 14, 15, 16, 24, 25] (by decide +kernel) (by decide +kernel)
set_option maxRecDepth 20000 in
theorem gX2_turn_X0_rotate : GoodIn wsX2_turn (wsV RX2 77 RX0 yX0_rotate wsX0_rotate) := goodIn_app (goodIn_of _ (by decide +kernel)) ggX2_turn_X0_rotate
set_option maxRecDepth 20000 in
theorem ggX2_turn_X0_at : GoodIn wsX2_turn wsX0_at := goodIn_r _ [11, 12, 24, 25] (by decide +kernel) (by decide +kernel)
set_option maxRecDepth 20000 in
theorem gX2_turn_X0_at : GoodIn wsX2_turn (wsV RX2 58 RX0 yX0_at wsX0_at) := goodIn_app (goodIn_of _ (by decide +kernel)) ggX2_turn_X0_at
theorem dX2_turn_0 : decode cX2_turn 0 = .ok (.aload_n 0, 1) := by decide +kernel
theorem dX2_turn_1 : decode cX2_turn 1 = .ok (.getfield 10, 3) := by decide +kernel
theorem dX2_turn_4 : decode cX2_turn 4 = .ok (.invokevirtual 77, 3) := by decide +kernel
theorem dX2_turn_7 : decode cX2_turn 7 = .ok (.aload_n 0, 1) := by decide +kernel
theorem dX2_turn_8 : decode cX2_turn 8 = .ok (.getfield 10, 3) := by decide +kernel
theorem dX2_turn_11 : decode cX2_turn 11 = .ok (.iconst 0, 1) := by decide +kernel
theorem dX2_turn_12 : decode cX2_turn 12 = .ok (.invokevirtual 58, 3) := by decide +kernel
theorem dX2_turn_15 : decode cX2_turn 15 = .ok (.ireturn, 1) := by decide +kernel
set_option maxRecDepth 20000 in
theorem ggX2_keep_X2_keptRing : GoodIn wsX2_keep wsX2_keptRing := goodIn_ca (goodIn_r _ [9, 10, 11, 3, 12, 28, 29, 30, 31, 32, 33] (by decide +kernel) (by decide +kernel)) (goodIn_sub (fun _ h => List.mem_cons_of_mem _ (List.mem_append_right _ h)) (by decide +kernel))
set_option maxRecDepth 20000 in
theorem gX2_keep_X2_keptRing : GoodIn wsX2_keep (wsV RX2 85 RX2 yX2_keptRing wsX2_keptRing) := goodIn_app (goodIn_of _ (by decide +kernel)) ggX2_keep_X2_keptRing
set_option maxRecDepth 20000 in
theorem ggX2_keep_X0_copyFrom : GoodIn wsX2_keep wsX0_copyFrom := goodIn_r _ [17, 18, 19, 20, 21, 22, 16, 23, 24, 25, 26, 27, 34, 35] (by decide +kernel) (by decide +kernel)
set_option maxRecDepth 20000 in
theorem gX2_keep_X0_copyFrom : GoodIn wsX2_keep (wsV RX2 89 RX0 yX0_copyFrom wsX0_copyFrom) := goodIn_app (goodIn_of _ (by decide +kernel)) ggX2_keep_X0_copyFrom
theorem dX2_keep_0 : decode cX2_keep 0 = .ok (.aload_n 0, 1) := by decide +kernel
theorem dX2_keep_1 : decode cX2_keep 1 = .ok (.getfield 20, 3) := by decide +kernel
theorem dX2_keep_4 : decode cX2_keep 4 = .ok (.bipush 6, 2) := by decide +kernel
theorem dX2_keep_6 : decode cX2_keep 6 = .ok (.if_icmp .lt 13, 3) := by decide +kernel
theorem dX2_keep_9 : decode cX2_keep 9 = .ok (.new 80, 3) := by decide +kernel
theorem dX2_keep_12 : decode cX2_keep 12 = .ok (.dup, 1) := by decide +kernel
theorem dX2_keep_13 : decode cX2_keep 13 = .ok (.ldc 82, 2) := by decide +kernel
theorem dX2_keep_15 : decode cX2_keep 15 = .ok (.invokespecial 84, 3) := by decide +kernel
theorem dX2_keep_18 : decode cX2_keep 18 = .ok (.athrow, 1) := by decide +kernel
theorem dX2_keep_19 : decode cX2_keep 19 = .ok (.aload_n 0, 1) := by decide +kernel
theorem dX2_keep_20 : decode cX2_keep 20 = .ok (.getfield 20, 3) := by decide +kernel
theorem dX2_keep_23 : decode cX2_keep 23 = .ok (.istore_n 1, 1) := by decide +kernel
theorem dX2_keep_24 : decode cX2_keep 24 = .ok (.aload_n 0, 1) := by decide +kernel
theorem dX2_keep_25 : decode cX2_keep 25 = .ok (.iload_n 1, 1) := by decide +kernel
theorem dX2_keep_26 : decode cX2_keep 26 = .ok (.iconst 1, 1) := by decide +kernel
theorem dX2_keep_27 : decode cX2_keep 27 = .ok (.iadd, 1) := by decide +kernel
theorem dX2_keep_28 : decode cX2_keep 28 = .ok (.putfield 20, 3) := by decide +kernel
theorem dX2_keep_31 : decode cX2_keep 31 = .ok (.aload_n 0, 1) := by decide +kernel
theorem dX2_keep_32 : decode cX2_keep 32 = .ok (.iload_n 1, 1) := by decide +kernel
theorem dX2_keep_33 : decode cX2_keep 33 = .ok (.invokevirtual 85, 3) := by decide +kernel
theorem dX2_keep_36 : decode cX2_keep 36 = .ok (.aload_n 0, 1) := by decide +kernel
theorem dX2_keep_37 : decode cX2_keep 37 = .ok (.getfield 10, 3) := by decide +kernel
theorem dX2_keep_40 : decode cX2_keep 40 = .ok (.invokevirtual 89, 3) := by decide +kernel
theorem dX2_keep_43 : decode cX2_keep 43 = .ok (.iload_n 1, 1) := by decide +kernel
theorem dX2_keep_44 : decode cX2_keep 44 = .ok (.ireturn, 1) := by decide +kernel
set_option maxRecDepth 20000 in
theorem ggX2_settle_X0_settleBy : GoodIn wsX2_settle wsX0_settleBy := goodIn_r _ [9, 10, 11, 12, 8, 13, 14, 15, 16, 17, 18, 19, 20, 21, 22, 23, 24, 25, 26, 27, 28, 29, 30, 31, 32, 33, 34, 35, 36, 37, 38, 39, 46, 47] (by decide +kernel) (by decide +kernel)
set_option maxRecDepth 20000 in
theorem gX2_settle_X0_settleBy : GoodIn wsX2_settle (wsV RX2 95 RX0 yX0_settleBy wsX0_settleBy) := goodIn_app (goodIn_of _ (by decide +kernel)) ggX2_settle_X0_settleBy
theorem dX2_settle_0 : decode cX2_settle 0 = .ok (.iload_n 1, 1) := by decide +kernel
theorem dX2_settle_1 : decode cX2_settle 1 = .ok (.iconst 1, 1) := by decide +kernel
theorem dX2_settle_2 : decode cX2_settle 2 = .ok (.if_icmp .lt 10, 3) := by decide +kernel
theorem dX2_settle_5 : decode cX2_settle 5 = .ok (.iload_n 1, 1) := by decide +kernel
theorem dX2_settle_6 : decode cX2_settle 6 = .ok (.sipush 200, 3) := by decide +kernel
theorem dX2_settle_9 : decode cX2_settle 9 = .ok (.if_icmp .le 13, 3) := by decide +kernel
theorem dX2_settle_12 : decode cX2_settle 12 = .ok (.new 37, 3) := by decide +kernel
theorem dX2_settle_15 : decode cX2_settle 15 = .ok (.dup, 1) := by decide +kernel
theorem dX2_settle_16 : decode cX2_settle 16 = .ok (.ldc 93, 2) := by decide +kernel
theorem dX2_settle_18 : decode cX2_settle 18 = .ok (.invokespecial 41, 3) := by decide +kernel
theorem dX2_settle_21 : decode cX2_settle 21 = .ok (.athrow, 1) := by decide +kernel
theorem dX2_settle_22 : decode cX2_settle 22 = .ok (.aload_n 0, 1) := by decide +kernel
theorem dX2_settle_23 : decode cX2_settle 23 = .ok (.getfield 10, 3) := by decide +kernel
theorem dX2_settle_26 : decode cX2_settle 26 = .ok (.iload_n 1, 1) := by decide +kernel
theorem dX2_settle_27 : decode cX2_settle 27 = .ok (.invokevirtual 95, 3) := by decide +kernel
theorem dX2_settle_30 : decode cX2_settle 30 = .ok (.istore_n 2, 1) := by decide +kernel
theorem dX2_settle_31 : decode cX2_settle 31 = .ok (.aload_n 0, 1) := by decide +kernel
theorem dX2_settle_32 : decode cX2_settle 32 = .ok (.dup, 1) := by decide +kernel
theorem dX2_settle_33 : decode cX2_settle 33 = .ok (.getfield 24, 3) := by decide +kernel
theorem dX2_settle_36 : decode cX2_settle 36 = .ok (.iload_n 2, 1) := by decide +kernel
theorem dX2_settle_37 : decode cX2_settle 37 = .ok (.iadd, 1) := by decide +kernel
theorem dX2_settle_38 : decode cX2_settle 38 = .ok (.putfield 24, 3) := by decide +kernel
theorem dX2_settle_41 : decode cX2_settle 41 = .ok (.iload_n 2, 1) := by decide +kernel
theorem dX2_settle_42 : decode cX2_settle 42 = .ok (.ireturn, 1) := by decide +kernel
set_option maxRecDepth 20000 in
theorem ggX2_reach_X2_keptRing : GoodIn wsX2_reach wsX2_keptRing := goodIn_ca (goodIn_r _ [7, 8, 9, 10, 11, 89, 90, 91, 92, 93, 94] (by decide +kernel) (by decide +kernel)) (goodIn_sub (fun _ h => List.mem_cons_of_mem _ (List.mem_append_left _ (List.mem_append_right _ h))) (by decide +kernel))
set_option maxRecDepth 20000 in
theorem gX2_reach_X2_keptRing : GoodIn wsX2_reach (wsV RX2 85 RX2 yX2_keptRing wsX2_keptRing) := goodIn_app (goodIn_of _ (by decide +kernel)) ggX2_reach_X2_keptRing
set_option maxRecDepth 20000 in
theorem ggX2_reach_X2_requireWayTo : GoodIn wsX2_reach wsX2_requireWayTo := goodIn_ca (goodIn_r _ [15, 16, 17, 1, 18, 19, 20, 21, 22, 23, 24, 25, 26, 27, 28, 29, 30, 31, 32, 33, 34, 35, 36, 37, 38, 39, 40, 89, 90, 91, 92, 93, 94, 95, 96] (by decide +kernel) (by decide +kernel)) (goodIn_sub (fun _ h => List.mem_cons_of_mem _ (List.mem_append_right _ h)) (by decide +kernel))
set_option maxRecDepth 20000 in
theorem gX2_reach_X2_requireWayTo : GoodIn wsX2_reach (wsV RX2 98 RX2 yX2_requireWayTo wsX2_requireWayTo) := goodIn_app (goodIn_of _ (by decide +kernel)) ggX2_reach_X2_requireWayTo
set_option maxRecDepth 20000 in
theorem ggX2_reach_X2_fewestTo : GoodIn wsX2_reach wsX2_fewestTo := goodIn_r _ [44, 1, 45, 18, 19, 20, 21, 22, 23, 24, 25, 26, 27, 28, 29, 30, 31, 32, 33, 34, 35, 36, 37, 38, 39, 40, 46, 47, 48, 49, 50, 51, 52, 53, 54, 55, 56, 57, 58, 59, 60, 61, 62, 63, 64, 65, 66, 67, 68, 69, 70, 71, 72, 73, 74, 75, 76, 77, 78, 79, 80, 89, 90, 91, 92, 93, 94, 95, 96, 97, 98] (by decide +kernel) (by decide +kernel)
set_option maxRecDepth 20000 in
theorem gX2_reach_X2_fewestTo : GoodIn wsX2_reach (wsV RX2 101 RX2 yX2_fewestTo wsX2_fewestTo) := goodIn_app (goodIn_of _ (by decide +kernel)) ggX2_reach_X2_fewestTo
set_option maxRecDepth 20000 in
theorem ggX2_reach_X0_copyFrom : GoodIn wsX2_reach wsX0_copyFrom := goodIn_r _ [84, 27, 32, 28, 29, 30, 21, 31, 85, 86, 87, 88, 95, 96] (by decide +kernel) (by decide +kernel)
set_option maxRecDepth 20000 in
theorem gX2_reach_X0_copyFrom : GoodIn wsX2_reach (wsV RX2 89 RX0 yX0_copyFrom wsX0_copyFrom) := goodIn_app (goodIn_of _ (by decide +kernel)) ggX2_reach_X0_copyFrom
theorem dX2_reach_0 : decode cX2_reach 0 = .ok (.aload_n 0, 1) := by decide +kernel
theorem dX2_reach_1 : decode cX2_reach 1 = .ok (.iload_n 1, 1) := by decide +kernel
theorem dX2_reach_2 : decode cX2_reach 2 = .ok (.invokevirtual 85, 3) := by decide +kernel
theorem dX2_reach_5 : decode cX2_reach 5 = .ok (.astore_n 2, 1) := by decide +kernel
theorem dX2_reach_6 : decode cX2_reach 6 = .ok (.aload_n 0, 1) := by decide +kernel
theorem dX2_reach_7 : decode cX2_reach 7 = .ok (.aload_n 2, 1) := by decide +kernel
theorem dX2_reach_8 : decode cX2_reach 8 = .ok (.invokevirtual 98, 3) := by decide +kernel
theorem dX2_reach_11 : decode cX2_reach 11 = .ok (.aload_n 0, 1) := by decide +kernel
theorem dX2_reach_12 : decode cX2_reach 12 = .ok (.aload_n 2, 1) := by decide +kernel
theorem dX2_reach_13 : decode cX2_reach 13 = .ok (.invokevirtual 101, 3) := by decide +kernel
theorem dX2_reach_16 : decode cX2_reach 16 = .ok (.istore_n 3, 1) := by decide +kernel
theorem dX2_reach_17 : decode cX2_reach 17 = .ok (.aload_n 0, 1) := by decide +kernel
theorem dX2_reach_18 : decode cX2_reach 18 = .ok (.getfield 10, 3) := by decide +kernel
theorem dX2_reach_21 : decode cX2_reach 21 = .ok (.aload_n 2, 1) := by decide +kernel
theorem dX2_reach_22 : decode cX2_reach 22 = .ok (.invokevirtual 89, 3) := by decide +kernel
theorem dX2_reach_25 : decode cX2_reach 25 = .ok (.aload_n 0, 1) := by decide +kernel
theorem dX2_reach_26 : decode cX2_reach 26 = .ok (.dup, 1) := by decide +kernel
theorem dX2_reach_27 : decode cX2_reach 27 = .ok (.getfield 24, 3) := by decide +kernel
theorem dX2_reach_30 : decode cX2_reach 30 = .ok (.iload_n 3, 1) := by decide +kernel
theorem dX2_reach_31 : decode cX2_reach 31 = .ok (.iadd, 1) := by decide +kernel
theorem dX2_reach_32 : decode cX2_reach 32 = .ok (.putfield 24, 3) := by decide +kernel
theorem dX2_reach_35 : decode cX2_reach 35 = .ok (.iload_n 3, 1) := by decide +kernel
theorem dX2_reach_36 : decode cX2_reach 36 = .ok (.ireturn, 1) := by decide +kernel
set_option maxRecDepth 20000 in
theorem ggX2_places_X0_size : GoodIn wsX2_places wsX0_size := goodIn_r _ [6, 7, 14, 15] (by decide +kernel) (by decide +kernel)
set_option maxRecDepth 20000 in
theorem gX2_places_X0_size : GoodIn wsX2_places (wsV RX2 44 RX0 yX0_size wsX0_size) := goodIn_app (goodIn_of _ (by decide +kernel)) ggX2_places_X0_size
theorem dX2_places_0 : decode cX2_places 0 = .ok (.aload_n 0, 1) := by decide +kernel
theorem dX2_places_1 : decode cX2_places 1 = .ok (.getfield 10, 3) := by decide +kernel
theorem dX2_places_4 : decode cX2_places 4 = .ok (.invokevirtual 44, 3) := by decide +kernel
theorem dX2_places_7 : decode cX2_places 7 = .ok (.ireturn, 1) := by decide +kernel
set_option maxRecDepth 20000 in
theorem ggX2_numberAt_X2_requirePlace : GoodIn wsX2_numberAt wsX2_requirePlace := goodIn_ca (goodIn_r _ [6, 7, 8, 1, 9, 10, 11, 12, 13, 14, 20, 21, 22, 23, 24, 25, 26, 27] (by decide +kernel) (by decide +kernel)) (goodIn_sub (fun _ h => List.mem_cons_of_mem _ (List.mem_append_right _ h)) (by decide +kernel))
set_option maxRecDepth 20000 in
theorem gX2_numberAt_X2_requirePlace : GoodIn wsX2_numberAt (wsV RX2 52 RX2 yX2_requirePlace wsX2_requirePlace) := goodIn_app (goodIn_of _ (by decide +kernel)) ggX2_numberAt_X2_requirePlace
set_option maxRecDepth 20000 in
theorem ggX2_numberAt_X0_at : GoodIn wsX2_numberAt wsX0_at := goodIn_r _ [18, 19, 26, 27] (by decide +kernel) (by decide +kernel)
set_option maxRecDepth 20000 in
theorem gX2_numberAt_X0_at : GoodIn wsX2_numberAt (wsV RX2 58 RX0 yX0_at wsX0_at) := goodIn_app (goodIn_of _ (by decide +kernel)) ggX2_numberAt_X0_at
theorem dX2_numberAt_0 : decode cX2_numberAt 0 = .ok (.aload_n 0, 1) := by decide +kernel
theorem dX2_numberAt_1 : decode cX2_numberAt 1 = .ok (.iload_n 1, 1) := by decide +kernel
theorem dX2_numberAt_2 : decode cX2_numberAt 2 = .ok (.invokevirtual 52, 3) := by decide +kernel
theorem dX2_numberAt_5 : decode cX2_numberAt 5 = .ok (.aload_n 0, 1) := by decide +kernel
theorem dX2_numberAt_6 : decode cX2_numberAt 6 = .ok (.getfield 10, 3) := by decide +kernel
theorem dX2_numberAt_9 : decode cX2_numberAt 9 = .ok (.iload_n 1, 1) := by decide +kernel
theorem dX2_numberAt_10 : decode cX2_numberAt 10 = .ok (.invokevirtual 58, 3) := by decide +kernel
theorem dX2_numberAt_13 : decode cX2_numberAt 13 = .ok (.ireturn, 1) := by decide +kernel
theorem dX2_targets_0 : decode cX2_targets 0 = .ok (.aload_n 0, 1) := by decide +kernel
theorem dX2_targets_1 : decode cX2_targets 1 = .ok (.getfield 20, 3) := by decide +kernel
theorem dX2_targets_4 : decode cX2_targets 4 = .ok (.ireturn, 1) := by decide +kernel
theorem dX2_tips_0 : decode cX2_tips 0 = .ok (.aload_n 0, 1) := by decide +kernel
theorem dX2_tips_1 : decode cX2_tips 1 = .ok (.getfield 24, 3) := by decide +kernel
theorem dX2_tips_4 : decode cX2_tips 4 = .ok (.ireturn, 1) := by decide +kernel
set_option maxRecDepth 20000 in
theorem ggX2_sum_X0_total : GoodIn wsX2_sum wsX0_total := goodIn_r _ [6, 7, 8, 9, 10, 5, 11, 12, 19, 20] (by decide +kernel) (by decide +kernel)
set_option maxRecDepth 20000 in
theorem gX2_sum_X0_total : GoodIn wsX2_sum (wsV RX2 105 RX0 yX0_total wsX0_total) := goodIn_app (goodIn_of _ (by decide +kernel)) ggX2_sum_X0_total
theorem dX2_sum_0 : decode cX2_sum 0 = .ok (.aload_n 0, 1) := by decide +kernel
theorem dX2_sum_1 : decode cX2_sum 1 = .ok (.getfield 10, 3) := by decide +kernel
theorem dX2_sum_4 : decode cX2_sum 4 = .ok (.invokevirtual 105, 3) := by decide +kernel
theorem dX2_sum_7 : decode cX2_sum 7 = .ok (.ireturn, 1) := by decide +kernel
set_option maxRecDepth 20000 in
theorem ggX2_moment_X0_momentLeft : GoodIn wsX2_moment wsX0_momentLeft := goodIn_r _ [6, 7, 8, 9, 10, 5, 11, 12, 13, 14, 15, 16, 23, 24] (by decide +kernel) (by decide +kernel)
set_option maxRecDepth 20000 in
theorem gX2_moment_X0_momentLeft : GoodIn wsX2_moment (wsV RX2 108 RX0 yX0_momentLeft wsX0_momentLeft) := goodIn_app (goodIn_of _ (by decide +kernel)) ggX2_moment_X0_momentLeft
theorem dX2_moment_0 : decode cX2_moment 0 = .ok (.aload_n 0, 1) := by decide +kernel
theorem dX2_moment_1 : decode cX2_moment 1 = .ok (.getfield 10, 3) := by decide +kernel
theorem dX2_moment_4 : decode cX2_moment 4 = .ok (.invokevirtual 108, 3) := by decide +kernel
theorem dX2_moment_7 : decode cX2_moment 7 = .ok (.ireturn, 1) := by decide +kernel
set_option maxRecDepth 20000 in
theorem ggX2_spread_X0_span : GoodIn wsX2_spread wsX0_span := goodIn_r _ [6, 7, 8, 9, 10, 11, 12, 13, 14, 5, 15, 16, 17, 18, 19, 20, 27, 28] (by decide +kernel) (by decide +kernel)
set_option maxRecDepth 20000 in
theorem gX2_spread_X0_span : GoodIn wsX2_spread (wsV RX2 111 RX0 yX0_span wsX0_span) := goodIn_app (goodIn_of _ (by decide +kernel)) ggX2_spread_X0_span
theorem dX2_spread_0 : decode cX2_spread 0 = .ok (.aload_n 0, 1) := by decide +kernel
theorem dX2_spread_1 : decode cX2_spread 1 = .ok (.getfield 10, 3) := by decide +kernel
theorem dX2_spread_4 : decode cX2_spread 4 = .ok (.invokevirtual 111, 3) := by decide +kernel
theorem dX2_spread_7 : decode cX2_spread 7 = .ok (.ireturn, 1) := by decide +kernel
set_option maxRecDepth 20000 in
theorem ggX2_highest_X0_firstGreatest : GoodIn wsX2_highest wsX0_firstGreatest := goodIn_r _ [6, 7, 8, 9, 10, 5, 11, 12, 19, 20] (by decide +kernel) (by decide +kernel)
set_option maxRecDepth 20000 in
theorem gX2_highest_X0_firstGreatest : GoodIn wsX2_highest (wsV RX2 114 RX0 yX0_firstGreatest wsX0_firstGreatest) := goodIn_app (goodIn_of _ (by decide +kernel)) ggX2_highest_X0_firstGreatest
theorem dX2_highest_0 : decode cX2_highest 0 = .ok (.aload_n 0, 1) := by decide +kernel
theorem dX2_highest_1 : decode cX2_highest 1 = .ok (.getfield 10, 3) := by decide +kernel
theorem dX2_highest_4 : decode cX2_highest 4 = .ok (.invokevirtual 114, 3) := by decide +kernel
theorem dX2_highest_7 : decode cX2_highest 7 = .ok (.ireturn, 1) := by decide +kernel
set_option maxRecDepth 20000 in
theorem ggX2_isSteep_X2_requirePlace : GoodIn wsX2_isSteep wsX2_requirePlace := goodIn_ca (goodIn_r _ [6, 7, 8, 1, 9, 10, 11, 12, 13, 14, 28, 29, 30, 31, 32, 33, 34, 35] (by decide +kernel) (by decide +kernel)) (goodIn_sub (fun _ h => List.mem_cons_of_mem _ (List.mem_append_right _ h)) (by decide +kernel))
set_option maxRecDepth 20000 in
theorem gX2_isSteep_X2_requirePlace : GoodIn wsX2_isSteep (wsV RX2 52 RX2 yX2_requirePlace wsX2_requirePlace) := goodIn_app (goodIn_of _ (by decide +kernel)) ggX2_isSteep_X2_requirePlace
set_option maxRecDepth 20000 in
theorem ggX2_isSteep_X0_steepAt : GoodIn wsX2_isSteep wsX0_steepAt := goodIn_r _ [18, 19, 20, 21, 12, 22, 23, 24, 25, 26, 27, 14, 34, 35] (by decide +kernel) (by decide +kernel)
set_option maxRecDepth 20000 in
theorem gX2_isSteep_X0_steepAt : GoodIn wsX2_isSteep (wsV RX2 117 RX0 yX0_steepAt wsX0_steepAt) := goodIn_app (goodIn_of _ (by decide +kernel)) ggX2_isSteep_X0_steepAt
theorem dX2_isSteep_0 : decode cX2_isSteep 0 = .ok (.aload_n 0, 1) := by decide +kernel
theorem dX2_isSteep_1 : decode cX2_isSteep 1 = .ok (.iload_n 1, 1) := by decide +kernel
theorem dX2_isSteep_2 : decode cX2_isSteep 2 = .ok (.invokevirtual 52, 3) := by decide +kernel
theorem dX2_isSteep_5 : decode cX2_isSteep 5 = .ok (.aload_n 0, 1) := by decide +kernel
theorem dX2_isSteep_6 : decode cX2_isSteep 6 = .ok (.getfield 10, 3) := by decide +kernel
theorem dX2_isSteep_9 : decode cX2_isSteep 9 = .ok (.iload_n 1, 1) := by decide +kernel
theorem dX2_isSteep_10 : decode cX2_isSteep 10 = .ok (.invokevirtual 117, 3) := by decide +kernel
theorem dX2_isSteep_13 : decode cX2_isSteep 13 = .ok (.ireturn, 1) := by decide +kernel
set_option maxRecDepth 20000 in
theorem ggX2_steepPlaces_X0_size : GoodIn wsX2_steepPlaces wsX0_size := goodIn_r _ [6, 7, 27, 28] (by decide +kernel) (by decide +kernel)
set_option maxRecDepth 20000 in
theorem gX2_steepPlaces_X0_size : GoodIn wsX2_steepPlaces (wsV RX2 44 RX0 yX0_size wsX0_size) := goodIn_app (goodIn_of _ (by decide +kernel)) ggX2_steepPlaces_X0_size
set_option maxRecDepth 20000 in
theorem ggX2_steepPlaces_X0_steepAt : GoodIn wsX2_steepPlaces wsX0_steepAt := goodIn_r _ [11, 12, 13, 14, 5, 15, 16, 17, 18, 19, 20, 7, 27, 28] (by decide +kernel) (by decide +kernel)
set_option maxRecDepth 20000 in
theorem gX2_steepPlaces_X0_steepAt : GoodIn wsX2_steepPlaces (wsV RX2 117 RX0 yX0_steepAt wsX0_steepAt) := goodIn_app (goodIn_of _ (by decide +kernel)) ggX2_steepPlaces_X0_steepAt
theorem dX2_steepPlaces_0 : decode cX2_steepPlaces 0 = .ok (.iconst 0, 1) := by decide +kernel
theorem dX2_steepPlaces_1 : decode cX2_steepPlaces 1 = .ok (.istore_n 1, 1) := by decide +kernel
theorem dX2_steepPlaces_2 : decode cX2_steepPlaces 2 = .ok (.iconst 0, 1) := by decide +kernel
theorem dX2_steepPlaces_3 : decode cX2_steepPlaces 3 = .ok (.istore_n 2, 1) := by decide +kernel
theorem dX2_steepPlaces_4 : decode cX2_steepPlaces 4 = .ok (.iload_n 2, 1) := by decide +kernel
theorem dX2_steepPlaces_5 : decode cX2_steepPlaces 5 = .ok (.aload_n 0, 1) := by decide +kernel
theorem dX2_steepPlaces_6 : decode cX2_steepPlaces 6 = .ok (.getfield 10, 3) := by decide +kernel
theorem dX2_steepPlaces_9 : decode cX2_steepPlaces 9 = .ok (.invokevirtual 44, 3) := by decide +kernel
theorem dX2_steepPlaces_12 : decode cX2_steepPlaces 12 = .ok (.if_icmp .ge 23, 3) := by decide +kernel
theorem dX2_steepPlaces_15 : decode cX2_steepPlaces 15 = .ok (.aload_n 0, 1) := by decide +kernel
theorem dX2_steepPlaces_16 : decode cX2_steepPlaces 16 = .ok (.getfield 10, 3) := by decide +kernel
theorem dX2_steepPlaces_19 : decode cX2_steepPlaces 19 = .ok (.iload_n 2, 1) := by decide +kernel
theorem dX2_steepPlaces_20 : decode cX2_steepPlaces 20 = .ok (.invokevirtual 117, 3) := by decide +kernel
theorem dX2_steepPlaces_23 : decode cX2_steepPlaces 23 = .ok (.ifCond .eq 6, 3) := by decide +kernel
theorem dX2_steepPlaces_26 : decode cX2_steepPlaces 26 = .ok (.iinc 1 1, 3) := by decide +kernel
theorem dX2_steepPlaces_29 : decode cX2_steepPlaces 29 = .ok (.iinc 2 1, 3) := by decide +kernel
theorem dX2_steepPlaces_32 : decode cX2_steepPlaces 32 = .ok (.goto (-28), 3) := by decide +kernel
theorem dX2_steepPlaces_35 : decode cX2_steepPlaces 35 = .ok (.iload_n 1, 1) := by decide +kernel
theorem dX2_steepPlaces_36 : decode cX2_steepPlaces 36 = .ok (.ireturn, 1) := by decide +kernel
set_option maxRecDepth 20000 in
theorem ggX2_nextToTip_X0_firstSteep : GoodIn wsX2_nextToTip wsX0_firstSteep := goodIn_r _ [6, 7, 8, 9, 10, 5, 11, 12, 13, 14, 15, 16, 17, 18, 19, 20, 27, 28] (by decide +kernel) (by decide +kernel)
set_option maxRecDepth 20000 in
theorem gX2_nextToTip_X0_firstSteep : GoodIn wsX2_nextToTip (wsV RX2 121 RX0 yX0_firstSteep wsX0_firstSteep) := goodIn_app (goodIn_of _ (by decide +kernel)) ggX2_nextToTip_X0_firstSteep
theorem dX2_nextToTip_0 : decode cX2_nextToTip 0 = .ok (.aload_n 0, 1) := by decide +kernel
theorem dX2_nextToTip_1 : decode cX2_nextToTip 1 = .ok (.getfield 10, 3) := by decide +kernel
theorem dX2_nextToTip_4 : decode cX2_nextToTip 4 = .ok (.invokevirtual 121, 3) := by decide +kernel
theorem dX2_nextToTip_7 : decode cX2_nextToTip 7 = .ok (.ireturn, 1) := by decide +kernel
set_option maxRecDepth 20000 in
theorem ggX2_tilt_X2_requirePlace : GoodIn wsX2_tilt wsX2_requirePlace := goodIn_ca (goodIn_r _ [6, 7, 8, 1, 9, 10, 11, 12, 13, 14, 28, 29, 30, 31, 32, 33, 34, 35] (by decide +kernel) (by decide +kernel)) (goodIn_sub (fun _ h => List.mem_cons_of_mem _ (List.mem_append_right _ h)) (by decide +kernel))
set_option maxRecDepth 20000 in
theorem gX2_tilt_X2_requirePlace : GoodIn wsX2_tilt (wsV RX2 52 RX2 yX2_requirePlace wsX2_requirePlace) := goodIn_app (goodIn_of _ (by decide +kernel)) ggX2_tilt_X2_requirePlace
set_option maxRecDepth 20000 in
theorem ggX2_tilt_X0_tiltOn : GoodIn wsX2_tilt wsX0_tiltOn := goodIn_r _ [18, 14, 19, 20, 21, 12, 22, 23, 24, 25, 26, 27, 34, 35] (by decide +kernel) (by decide +kernel)
set_option maxRecDepth 20000 in
theorem gX2_tilt_X0_tiltOn : GoodIn wsX2_tilt (wsV RX2 124 RX0 yX0_tiltOn wsX0_tiltOn) := goodIn_app (goodIn_of _ (by decide +kernel)) ggX2_tilt_X0_tiltOn
theorem dX2_tilt_0 : decode cX2_tilt 0 = .ok (.aload_n 0, 1) := by decide +kernel
theorem dX2_tilt_1 : decode cX2_tilt 1 = .ok (.iload_n 1, 1) := by decide +kernel
theorem dX2_tilt_2 : decode cX2_tilt 2 = .ok (.invokevirtual 52, 3) := by decide +kernel
theorem dX2_tilt_5 : decode cX2_tilt 5 = .ok (.aload_n 0, 1) := by decide +kernel
theorem dX2_tilt_6 : decode cX2_tilt 6 = .ok (.getfield 10, 3) := by decide +kernel
theorem dX2_tilt_9 : decode cX2_tilt 9 = .ok (.iload_n 1, 1) := by decide +kernel
theorem dX2_tilt_10 : decode cX2_tilt 10 = .ok (.invokevirtual 124, 3) := by decide +kernel
theorem dX2_tilt_13 : decode cX2_tilt 13 = .ok (.ireturn, 1) := by decide +kernel
set_option maxRecDepth 20000 in
theorem ggX2_levelAxes_X0_size : GoodIn wsX2_levelAxes wsX0_size := goodIn_r _ [6, 7, 27, 28] (by decide +kernel) (by decide +kernel)
set_option maxRecDepth 20000 in
theorem gX2_levelAxes_X0_size : GoodIn wsX2_levelAxes (wsV RX2 44 RX0 yX0_size wsX0_size) := goodIn_app (goodIn_of _ (by decide +kernel)) ggX2_levelAxes_X0_size
set_option maxRecDepth 20000 in
theorem ggX2_levelAxes_X0_tiltOn : GoodIn wsX2_levelAxes wsX0_tiltOn := goodIn_r _ [11, 7, 12, 13, 14, 5, 15, 16, 17, 18, 19, 20, 27, 28] (by decide +kernel) (by decide +kernel)
set_option maxRecDepth 20000 in
theorem gX2_levelAxes_X0_tiltOn : GoodIn wsX2_levelAxes (wsV RX2 124 RX0 yX0_tiltOn wsX0_tiltOn) := goodIn_app (goodIn_of _ (by decide +kernel)) ggX2_levelAxes_X0_tiltOn
theorem dX2_levelAxes_0 : decode cX2_levelAxes 0 = .ok (.iconst 0, 1) := by decide +kernel
theorem dX2_levelAxes_1 : decode cX2_levelAxes 1 = .ok (.istore_n 1, 1) := by decide +kernel
theorem dX2_levelAxes_2 : decode cX2_levelAxes 2 = .ok (.iconst 0, 1) := by decide +kernel
theorem dX2_levelAxes_3 : decode cX2_levelAxes 3 = .ok (.istore_n 2, 1) := by decide +kernel
theorem dX2_levelAxes_4 : decode cX2_levelAxes 4 = .ok (.iload_n 2, 1) := by decide +kernel
theorem dX2_levelAxes_5 : decode cX2_levelAxes 5 = .ok (.aload_n 0, 1) := by decide +kernel
theorem dX2_levelAxes_6 : decode cX2_levelAxes 6 = .ok (.getfield 10, 3) := by decide +kernel
theorem dX2_levelAxes_9 : decode cX2_levelAxes 9 = .ok (.invokevirtual 44, 3) := by decide +kernel
theorem dX2_levelAxes_12 : decode cX2_levelAxes 12 = .ok (.if_icmp .ge 23, 3) := by decide +kernel
theorem dX2_levelAxes_15 : decode cX2_levelAxes 15 = .ok (.aload_n 0, 1) := by decide +kernel
theorem dX2_levelAxes_16 : decode cX2_levelAxes 16 = .ok (.getfield 10, 3) := by decide +kernel
theorem dX2_levelAxes_19 : decode cX2_levelAxes 19 = .ok (.iload_n 2, 1) := by decide +kernel
theorem dX2_levelAxes_20 : decode cX2_levelAxes 20 = .ok (.invokevirtual 124, 3) := by decide +kernel
theorem dX2_levelAxes_23 : decode cX2_levelAxes 23 = .ok (.ifCond .ne 6, 3) := by decide +kernel
theorem dX2_levelAxes_26 : decode cX2_levelAxes 26 = .ok (.iinc 1 1, 3) := by decide +kernel
theorem dX2_levelAxes_29 : decode cX2_levelAxes 29 = .ok (.iinc 2 1, 3) := by decide +kernel
theorem dX2_levelAxes_32 : decode cX2_levelAxes 32 = .ok (.goto (-28), 3) := by decide +kernel
theorem dX2_levelAxes_35 : decode cX2_levelAxes 35 = .ok (.iload_n 1, 1) := by decide +kernel
theorem dX2_levelAxes_36 : decode cX2_levelAxes 36 = .ok (.ireturn, 1) := by decide +kernel
set_option maxRecDepth 20000 in
theorem ggX2_bestAxis_X0_size : GoodIn wsX2_bestAxis wsX0_size := goodIn_r _ [10, 11, 31, 32] (by decide +kernel) (by decide +kernel)
set_option maxRecDepth 20000 in
theorem gX2_bestAxis_X0_size : GoodIn wsX2_bestAxis (wsV RX2 44 RX0 yX0_size wsX0_size) := goodIn_app (goodIn_of _ (by decide +kernel)) ggX2_bestAxis_X0_size
set_option maxRecDepth 20000 in
theorem ggX2_bestAxis_X0_tiltOn : GoodIn wsX2_bestAxis wsX0_tiltOn := goodIn_r _ [15, 11, 16, 17, 18, 9, 19, 20, 21, 22, 23, 24, 31, 32] (by decide +kernel) (by decide +kernel)
set_option maxRecDepth 20000 in
theorem gX2_bestAxis_X0_tiltOn : GoodIn wsX2_bestAxis (wsV RX2 124 RX0 yX0_tiltOn wsX0_tiltOn) := goodIn_app (goodIn_of _ (by decide +kernel)) ggX2_bestAxis_X0_tiltOn
theorem dX2_bestAxis_0 : decode cX2_bestAxis 0 = .ok (.iconst 0, 1) := by decide +kernel
theorem dX2_bestAxis_1 : decode cX2_bestAxis 1 = .ok (.istore_n 1, 1) := by decide +kernel
theorem dX2_bestAxis_2 : decode cX2_bestAxis 2 = .ok (.iconst 1, 1) := by decide +kernel
theorem dX2_bestAxis_3 : decode cX2_bestAxis 3 = .ok (.istore_n 2, 1) := by decide +kernel
theorem dX2_bestAxis_4 : decode cX2_bestAxis 4 = .ok (.iload_n 2, 1) := by decide +kernel
theorem dX2_bestAxis_5 : decode cX2_bestAxis 5 = .ok (.aload_n 0, 1) := by decide +kernel
theorem dX2_bestAxis_6 : decode cX2_bestAxis 6 = .ok (.getfield 10, 3) := by decide +kernel
theorem dX2_bestAxis_9 : decode cX2_bestAxis 9 = .ok (.invokevirtual 44, 3) := by decide +kernel
theorem dX2_bestAxis_12 : decode cX2_bestAxis 12 = .ok (.if_icmp .ge 36, 3) := by decide +kernel
theorem dX2_bestAxis_15 : decode cX2_bestAxis 15 = .ok (.aload_n 0, 1) := by decide +kernel
theorem dX2_bestAxis_16 : decode cX2_bestAxis 16 = .ok (.getfield 10, 3) := by decide +kernel
theorem dX2_bestAxis_19 : decode cX2_bestAxis 19 = .ok (.iload_n 2, 1) := by decide +kernel
theorem dX2_bestAxis_20 : decode cX2_bestAxis 20 = .ok (.invokevirtual 124, 3) := by decide +kernel
theorem dX2_bestAxis_23 : decode cX2_bestAxis 23 = .ok (.invokestatic 72, 3) := by decide +kernel
theorem dX2_bestAxis_26 : decode cX2_bestAxis 26 = .ok (.aload_n 0, 1) := by decide +kernel
theorem dX2_bestAxis_27 : decode cX2_bestAxis 27 = .ok (.getfield 10, 3) := by decide +kernel
theorem dX2_bestAxis_30 : decode cX2_bestAxis 30 = .ok (.iload_n 1, 1) := by decide +kernel
theorem dX2_bestAxis_31 : decode cX2_bestAxis 31 = .ok (.invokevirtual 124, 3) := by decide +kernel
theorem dX2_bestAxis_34 : decode cX2_bestAxis 34 = .ok (.invokestatic 72, 3) := by decide +kernel
theorem dX2_bestAxis_37 : decode cX2_bestAxis 37 = .ok (.if_icmp .ge 5, 3) := by decide +kernel
theorem dX2_bestAxis_40 : decode cX2_bestAxis 40 = .ok (.iload_n 2, 1) := by decide +kernel
theorem dX2_bestAxis_41 : decode cX2_bestAxis 41 = .ok (.istore_n 1, 1) := by decide +kernel
theorem dX2_bestAxis_42 : decode cX2_bestAxis 42 = .ok (.iinc 2 1, 3) := by decide +kernel
theorem dX2_bestAxis_45 : decode cX2_bestAxis 45 = .ok (.goto (-41), 3) := by decide +kernel
theorem dX2_bestAxis_48 : decode cX2_bestAxis 48 = .ok (.iload_n 1, 1) := by decide +kernel
theorem dX2_bestAxis_49 : decode cX2_bestAxis 49 = .ok (.ireturn, 1) := by decide +kernel
set_option maxRecDepth 20000 in
theorem ggX2_numberIn_X2_keptRing : GoodIn wsX2_numberIn wsX2_keptRing := goodIn_ca (goodIn_r _ [5, 6, 7, 8, 9, 26, 27, 28, 29, 30, 31] (by decide +kernel) (by decide +kernel)) (goodIn_sub (fun _ h => List.mem_cons_of_mem _ (List.mem_append_right _ h)) (by decide +kernel))
set_option maxRecDepth 20000 in
theorem gX2_numberIn_X2_keptRing : GoodIn wsX2_numberIn (wsV RX2 85 RX2 yX2_keptRing wsX2_keptRing) := goodIn_app (goodIn_of _ (by decide +kernel)) ggX2_numberIn_X2_keptRing
set_option maxRecDepth 20000 in
theorem ggX2_numberIn_X2_requirePlace : GoodIn wsX2_numberIn wsX2_requirePlace := goodIn_ca (goodIn_r _ [13, 6, 7, 14, 15, 16, 17, 18, 19, 20, 26, 27, 28, 29, 30, 31, 32, 33] (by decide +kernel) (by decide +kernel)) (goodIn_sub (fun _ h => List.mem_cons_of_mem _ (List.mem_append_right _ h)) (by decide +kernel))
set_option maxRecDepth 20000 in
theorem gX2_numberIn_X2_requirePlace : GoodIn wsX2_numberIn (wsV RX2 52 RX2 yX2_requirePlace wsX2_requirePlace) := goodIn_app (goodIn_of _ (by decide +kernel)) ggX2_numberIn_X2_requirePlace
set_option maxRecDepth 20000 in
theorem ggX2_numberIn_X0_at : GoodIn wsX2_numberIn wsX0_at := goodIn_r _ [24, 25, 32, 33] (by decide +kernel) (by decide +kernel)
set_option maxRecDepth 20000 in
theorem gX2_numberIn_X0_at : GoodIn wsX2_numberIn (wsV RX2 58 RX0 yX0_at wsX0_at) := goodIn_app (goodIn_of _ (by decide +kernel)) ggX2_numberIn_X0_at
theorem dX2_numberIn_0 : decode cX2_numberIn 0 = .ok (.aload_n 0, 1) := by decide +kernel
theorem dX2_numberIn_1 : decode cX2_numberIn 1 = .ok (.iload_n 1, 1) := by decide +kernel
theorem dX2_numberIn_2 : decode cX2_numberIn 2 = .ok (.invokevirtual 85, 3) := by decide +kernel
theorem dX2_numberIn_5 : decode cX2_numberIn 5 = .ok (.astore_n 3, 1) := by decide +kernel
theorem dX2_numberIn_6 : decode cX2_numberIn 6 = .ok (.aload_n 0, 1) := by decide +kernel
theorem dX2_numberIn_7 : decode cX2_numberIn 7 = .ok (.iload_n 2, 1) := by decide +kernel
theorem dX2_numberIn_8 : decode cX2_numberIn 8 = .ok (.invokevirtual 52, 3) := by decide +kernel
theorem dX2_numberIn_11 : decode cX2_numberIn 11 = .ok (.aload_n 3, 1) := by decide +kernel
theorem dX2_numberIn_12 : decode cX2_numberIn 12 = .ok (.iload_n 2, 1) := by decide +kernel
theorem dX2_numberIn_13 : decode cX2_numberIn 13 = .ok (.invokevirtual 58, 3) := by decide +kernel
theorem dX2_numberIn_16 : decode cX2_numberIn 16 = .ok (.ireturn, 1) := by decide +kernel
set_option maxRecDepth 20000 in
theorem ggX2_differences_X2_keptRing : GoodIn wsX2_differences wsX2_keptRing := goodIn_ca (goodIn_r _ [6, 7, 8, 9, 10, 22, 23, 24, 25, 26, 27] (by decide +kernel) (by decide +kernel)) (goodIn_sub (fun _ h => List.mem_cons_of_mem _ (List.mem_append_right _ h)) (by decide +kernel))
set_option maxRecDepth 20000 in
theorem gX2_differences_X2_keptRing : GoodIn wsX2_differences (wsV RX2 85 RX2 yX2_keptRing wsX2_keptRing) := goodIn_app (goodIn_of _ (by decide +kernel)) ggX2_differences_X2_keptRing
set_option maxRecDepth 20000 in
theorem ggX2_differences_X0_differencesFrom : GoodIn wsX2_differences wsX0_differencesFrom := goodIn_r _ [15, 16, 17, 18, 19, 14, 20, 21, 28, 29] (by decide +kernel) (by decide +kernel)
set_option maxRecDepth 20000 in
theorem gX2_differences_X0_differencesFrom : GoodIn wsX2_differences (wsV RX2 127 RX0 yX0_differencesFrom wsX0_differencesFrom) := goodIn_app (goodIn_of _ (by decide +kernel)) ggX2_differences_X0_differencesFrom
theorem dX2_differences_0 : decode cX2_differences 0 = .ok (.aload_n 0, 1) := by decide +kernel
theorem dX2_differences_1 : decode cX2_differences 1 = .ok (.getfield 10, 3) := by decide +kernel
theorem dX2_differences_4 : decode cX2_differences 4 = .ok (.aload_n 0, 1) := by decide +kernel
theorem dX2_differences_5 : decode cX2_differences 5 = .ok (.iload_n 1, 1) := by decide +kernel
theorem dX2_differences_6 : decode cX2_differences 6 = .ok (.invokevirtual 85, 3) := by decide +kernel
theorem dX2_differences_9 : decode cX2_differences 9 = .ok (.invokevirtual 127, 3) := by decide +kernel
theorem dX2_differences_12 : decode cX2_differences 12 = .ok (.ireturn, 1) := by decide +kernel
set_option maxRecDepth 20000 in
theorem ggX2_canReach_X2_keptRing : GoodIn wsX2_canReach wsX2_keptRing := goodIn_ca (goodIn_r _ [6, 7, 8, 9, 10, 34, 35, 36, 37, 38, 39] (by decide +kernel) (by decide +kernel)) (goodIn_sub (fun _ h => List.mem_cons_of_mem _ (List.mem_append_right _ h)) (by decide +kernel))
set_option maxRecDepth 20000 in
theorem gX2_canReach_X2_keptRing : GoodIn wsX2_canReach (wsV RX2 85 RX2 yX2_keptRing wsX2_keptRing) := goodIn_app (goodIn_of _ (by decide +kernel)) ggX2_canReach_X2_keptRing
set_option maxRecDepth 20000 in
theorem ggX2_canReach_X0_canBecome : GoodIn wsX2_canReach wsX0_canBecome := goodIn_r _ [15, 16, 17, 18, 14, 19, 20, 21, 22, 23, 24, 25, 26, 27, 28, 29, 30, 31, 32, 33, 40, 41] (by decide +kernel) (by decide +kernel)
set_option maxRecDepth 20000 in
theorem gX2_canReach_X0_canBecome : GoodIn wsX2_canReach (wsV RX2 130 RX0 yX0_canBecome wsX0_canBecome) := goodIn_app (goodIn_of _ (by decide +kernel)) ggX2_canReach_X0_canBecome
theorem dX2_canReach_0 : decode cX2_canReach 0 = .ok (.aload_n 0, 1) := by decide +kernel
theorem dX2_canReach_1 : decode cX2_canReach 1 = .ok (.getfield 10, 3) := by decide +kernel
theorem dX2_canReach_4 : decode cX2_canReach 4 = .ok (.aload_n 0, 1) := by decide +kernel
theorem dX2_canReach_5 : decode cX2_canReach 5 = .ok (.iload_n 1, 1) := by decide +kernel
theorem dX2_canReach_6 : decode cX2_canReach 6 = .ok (.invokevirtual 85, 3) := by decide +kernel
theorem dX2_canReach_9 : decode cX2_canReach 9 = .ok (.invokevirtual 130, 3) := by decide +kernel
theorem dX2_canReach_12 : decode cX2_canReach 12 = .ok (.ireturn, 1) := by decide +kernel
set_option maxRecDepth 20000 in
theorem ggX2_reachable_X2_keptRing : GoodIn wsX2_reachable wsX2_keptRing := goodIn_ca (goodIn_r _ [7, 8, 9, 1, 10, 34, 35, 36, 37, 38, 39] (by decide +kernel) (by decide +kernel)) (goodIn_sub (fun _ h => List.mem_cons_of_mem _ (List.mem_append_right _ h)) (by decide +kernel))
set_option maxRecDepth 20000 in
theorem gX2_reachable_X2_keptRing : GoodIn wsX2_reachable (wsV RX2 85 RX2 yX2_keptRing wsX2_keptRing) := goodIn_app (goodIn_of _ (by decide +kernel)) ggX2_reachable_X2_keptRing
set_option maxRecDepth 20000 in
theorem ggX2_reachable_X0_canBecome : GoodIn wsX2_reachable wsX0_canBecome := goodIn_r _ [15, 16, 17, 18, 14, 19, 20, 21, 22, 23, 24, 25, 26, 27, 28, 29, 30, 31, 32, 33, 40, 41] (by decide +kernel) (by decide +kernel)
set_option maxRecDepth 20000 in
theorem gX2_reachable_X0_canBecome : GoodIn wsX2_reachable (wsV RX2 130 RX0 yX0_canBecome wsX0_canBecome) := goodIn_app (goodIn_of _ (by decide +kernel)) ggX2_reachable_X0_canBecome
theorem dX2_reachable_0 : decode cX2_reachable 0 = .ok (.iconst 0, 1) := by decide +kernel
theorem dX2_reachable_1 : decode cX2_reachable 1 = .ok (.istore_n 1, 1) := by decide +kernel
theorem dX2_reachable_2 : decode cX2_reachable 2 = .ok (.iconst 0, 1) := by decide +kernel
theorem dX2_reachable_3 : decode cX2_reachable 3 = .ok (.istore_n 2, 1) := by decide +kernel
theorem dX2_reachable_4 : decode cX2_reachable 4 = .ok (.iload_n 2, 1) := by decide +kernel
theorem dX2_reachable_5 : decode cX2_reachable 5 = .ok (.aload_n 0, 1) := by decide +kernel
theorem dX2_reachable_6 : decode cX2_reachable 6 = .ok (.getfield 20, 3) := by decide +kernel
theorem dX2_reachable_9 : decode cX2_reachable 9 = .ok (.if_icmp .ge 27, 3) := by decide +kernel
theorem dX2_reachable_12 : decode cX2_reachable 12 = .ok (.aload_n 0, 1) := by decide +kernel
theorem dX2_reachable_13 : decode cX2_reachable 13 = .ok (.getfield 10, 3) := by decide +kernel
theorem dX2_reachable_16 : decode cX2_reachable 16 = .ok (.aload_n 0, 1) := by decide +kernel
theorem dX2_reachable_17 : decode cX2_reachable 17 = .ok (.iload_n 2, 1) := by decide +kernel
theorem dX2_reachable_18 : decode cX2_reachable 18 = .ok (.invokevirtual 85, 3) := by decide +kernel
theorem dX2_reachable_21 : decode cX2_reachable 21 = .ok (.invokevirtual 130, 3) := by decide +kernel
theorem dX2_reachable_24 : decode cX2_reachable 24 = .ok (.ifCond .eq 6, 3) := by decide +kernel
theorem dX2_reachable_27 : decode cX2_reachable 27 = .ok (.iinc 1 1, 3) := by decide +kernel
theorem dX2_reachable_30 : decode cX2_reachable 30 = .ok (.iinc 2 1, 3) := by decide +kernel
theorem dX2_reachable_33 : decode cX2_reachable 33 = .ok (.goto (-29), 3) := by decide +kernel
theorem dX2_reachable_36 : decode cX2_reachable 36 = .ok (.iload_n 1, 1) := by decide +kernel
theorem dX2_reachable_37 : decode cX2_reachable 37 = .ok (.ireturn, 1) := by decide +kernel
set_option maxRecDepth 20000 in
theorem ggX2_tipsTo_X2_keptRing : GoodIn wsX2_tipsTo wsX2_keptRing := goodIn_ca (goodIn_r _ [7, 8, 9, 10, 11, 66, 67, 68, 69, 70, 71] (by decide +kernel) (by decide +kernel)) (goodIn_sub (fun _ h => List.mem_cons_of_mem _ (List.mem_append_left _ (List.mem_append_right _ h))) (by decide +kernel))
set_option maxRecDepth 20000 in
theorem gX2_tipsTo_X2_keptRing : GoodIn wsX2_tipsTo (wsV RX2 85 RX2 yX2_keptRing wsX2_keptRing) := goodIn_app (goodIn_of _ (by decide +kernel)) ggX2_tipsTo_X2_keptRing
set_option maxRecDepth 20000 in
theorem ggX2_tipsTo_X2_requirePlace : GoodIn wsX2_tipsTo wsX2_requirePlace := goodIn_ca (goodIn_r _ [15, 8, 9, 2, 16, 17, 18, 19, 20, 21, 66, 67, 68, 69, 70, 71, 72, 73] (by decide +kernel) (by decide +kernel)) (goodIn_sub (fun _ h => List.mem_cons_of_mem _ (List.mem_append_left _ (List.mem_append_right _ h))) (by decide +kernel))
set_option maxRecDepth 20000 in
theorem gX2_tipsTo_X2_requirePlace : GoodIn wsX2_tipsTo (wsV RX2 52 RX2 yX2_requirePlace wsX2_requirePlace) := goodIn_app (goodIn_of _ (by decide +kernel)) ggX2_tipsTo_X2_requirePlace
set_option maxRecDepth 20000 in
theorem ggX2_tipsTo_X2_requireWayTo : GoodIn wsX2_tipsTo wsX2_requireWayTo := goodIn_ca (goodIn_r _ [25, 26, 27, 2, 28, 29, 30, 19, 31, 32, 33, 34, 35, 21, 36, 37, 38, 39, 40, 41, 42, 43, 44, 45, 46, 47, 48, 66, 67, 68, 69, 70, 71, 72, 73] (by decide +kernel) (by decide +kernel)) (goodIn_sub (fun _ h => List.mem_cons_of_mem _ (List.mem_append_right _ h)) (by decide +kernel))
set_option maxRecDepth 20000 in
theorem gX2_tipsTo_X2_requireWayTo : GoodIn wsX2_tipsTo (wsV RX2 98 RX2 yX2_requireWayTo wsX2_requireWayTo) := goodIn_app (goodIn_of _ (by decide +kernel)) ggX2_tipsTo_X2_requireWayTo
set_option maxRecDepth 20000 in
theorem ggX2_tipsTo_X1_find : GoodIn wsX2_tipsTo wsX1_find := goodIn_r _ [53, 54, 55, 56, 17, 18, 19, 20, 21, 57, 58, 59, 52, 60, 61, 37, 38, 39, 40, 74, 75, 72, 73] (by decide +kernel) (by decide +kernel)
set_option maxRecDepth 20000 in
theorem gX2_tipsTo_X1_find : GoodIn wsX2_tipsTo (wsV RX2 134 RX1 yX1_find wsX1_find) := goodIn_app (goodIn_of _ (by decide +kernel)) ggX2_tipsTo_X1_find
set_option maxRecDepth 20000 in
theorem ggX2_tipsTo_X1_tipsAt : GoodIn wsX2_tipsTo wsX1_tipsAt := goodIn_r _ [65, 55, 74, 75] (by decide +kernel) (by decide +kernel)
set_option maxRecDepth 20000 in
theorem gX2_tipsTo_X1_tipsAt : GoodIn wsX2_tipsTo (wsV RX2 138 RX1 yX1_tipsAt wsX1_tipsAt) := goodIn_app (goodIn_of _ (by decide +kernel)) ggX2_tipsTo_X1_tipsAt
theorem dX2_tipsTo_0 : decode cX2_tipsTo 0 = .ok (.aload_n 0, 1) := by decide +kernel
theorem dX2_tipsTo_1 : decode cX2_tipsTo 1 = .ok (.iload_n 1, 1) := by decide +kernel
theorem dX2_tipsTo_2 : decode cX2_tipsTo 2 = .ok (.invokevirtual 85, 3) := by decide +kernel
theorem dX2_tipsTo_5 : decode cX2_tipsTo 5 = .ok (.astore_n 3, 1) := by decide +kernel
theorem dX2_tipsTo_6 : decode cX2_tipsTo 6 = .ok (.aload_n 0, 1) := by decide +kernel
theorem dX2_tipsTo_7 : decode cX2_tipsTo 7 = .ok (.iload_n 2, 1) := by decide +kernel
theorem dX2_tipsTo_8 : decode cX2_tipsTo 8 = .ok (.invokevirtual 52, 3) := by decide +kernel
theorem dX2_tipsTo_11 : decode cX2_tipsTo 11 = .ok (.aload_n 0, 1) := by decide +kernel
theorem dX2_tipsTo_12 : decode cX2_tipsTo 12 = .ok (.aload_n 3, 1) := by decide +kernel
theorem dX2_tipsTo_13 : decode cX2_tipsTo 13 = .ok (.invokevirtual 98, 3) := by decide +kernel
theorem dX2_tipsTo_16 : decode cX2_tipsTo 16 = .ok (.aload_n 0, 1) := by decide +kernel
theorem dX2_tipsTo_17 : decode cX2_tipsTo 17 = .ok (.getfield 33, 3) := by decide +kernel
theorem dX2_tipsTo_20 : decode cX2_tipsTo 20 = .ok (.aload_n 0, 1) := by decide +kernel
theorem dX2_tipsTo_21 : decode cX2_tipsTo 21 = .ok (.getfield 10, 3) := by decide +kernel
theorem dX2_tipsTo_24 : decode cX2_tipsTo 24 = .ok (.aload_n 3, 1) := by decide +kernel
theorem dX2_tipsTo_25 : decode cX2_tipsTo 25 = .ok (.invokevirtual 134, 3) := by decide +kernel
theorem dX2_tipsTo_28 : decode cX2_tipsTo 28 = .ok (.aload_n 0, 1) := by decide +kernel
theorem dX2_tipsTo_29 : decode cX2_tipsTo 29 = .ok (.getfield 33, 3) := by decide +kernel
theorem dX2_tipsTo_32 : decode cX2_tipsTo 32 = .ok (.iload_n 2, 1) := by decide +kernel
theorem dX2_tipsTo_33 : decode cX2_tipsTo 33 = .ok (.invokevirtual 138, 3) := by decide +kernel
theorem dX2_tipsTo_36 : decode cX2_tipsTo 36 = .ok (.ireturn, 1) := by decide +kernel
set_option maxRecDepth 20000 in
theorem ggX2_fewestTips_X2_keptRing : GoodIn wsX2_fewestTips wsX2_keptRing := goodIn_ca (goodIn_r _ [5, 6, 7, 8, 9, 74, 75, 76, 77, 78, 79] (by decide +kernel) (by decide +kernel)) (goodIn_sub (fun _ h => List.mem_cons_of_mem _ (List.mem_append_right _ h)) (by decide +kernel))
set_option maxRecDepth 20000 in
theorem gX2_fewestTips_X2_keptRing : GoodIn wsX2_fewestTips (wsV RX2 85 RX2 yX2_keptRing wsX2_keptRing) := goodIn_app (goodIn_of _ (by decide +kernel)) ggX2_fewestTips_X2_keptRing
set_option maxRecDepth 20000 in
theorem ggX2_fewestTips_X2_fewestTo : GoodIn wsX2_fewestTips wsX2_fewestTo := goodIn_r _ [13, 14, 15, 16, 17, 18, 19, 20, 21, 22, 23, 24, 25, 26, 27, 28, 29, 30, 31, 32, 33, 34, 35, 36, 37, 38, 39, 40, 41, 42, 43, 44, 45, 46, 47, 48, 49, 50, 51, 52, 53, 54, 55, 56, 57, 58, 59, 60, 61, 62, 63, 64, 65, 66, 67, 68, 69, 70, 71, 72, 73, 74, 75, 76, 77, 78, 79, 80, 81, 82, 83] (by decide +kernel) (by decide +kernel)
set_option maxRecDepth 20000 in
theorem gX2_fewestTips_X2_fewestTo : GoodIn wsX2_fewestTips (wsV RX2 101 RX2 yX2_fewestTo wsX2_fewestTo) := goodIn_app (goodIn_of _ (by decide +kernel)) ggX2_fewestTips_X2_fewestTo
theorem dX2_fewestTips_0 : decode cX2_fewestTips 0 = .ok (.aload_n 0, 1) := by decide +kernel
theorem dX2_fewestTips_1 : decode cX2_fewestTips 1 = .ok (.aload_n 0, 1) := by decide +kernel
theorem dX2_fewestTips_2 : decode cX2_fewestTips 2 = .ok (.iload_n 1, 1) := by decide +kernel
theorem dX2_fewestTips_3 : decode cX2_fewestTips 3 = .ok (.invokevirtual 85, 3) := by decide +kernel
theorem dX2_fewestTips_6 : decode cX2_fewestTips 6 = .ok (.invokevirtual 101, 3) := by decide +kernel
theorem dX2_fewestTips_9 : decode cX2_fewestTips 9 = .ok (.ireturn, 1) := by decide +kernel
set_option maxRecDepth 20000 in
theorem ggX2_nearestTarget_X2_keptRing : GoodIn wsX2_nearestTarget wsX2_keptRing := goodIn_ca (goodIn_r _ [6, 7, 8, 1, 9, 74, 75, 76, 77, 78, 79] (by decide +kernel) (by decide +kernel)) (goodIn_sub (fun _ h => List.mem_cons_of_mem _ (List.mem_append_right _ h)) (by decide +kernel))
set_option maxRecDepth 20000 in
theorem gX2_nearestTarget_X2_keptRing : GoodIn wsX2_nearestTarget (wsV RX2 85 RX2 yX2_keptRing wsX2_keptRing) := goodIn_app (goodIn_of _ (by decide +kernel)) ggX2_nearestTarget_X2_keptRing
set_option maxRecDepth 20000 in
theorem ggX2_nearestTarget_X2_fewestTo : GoodIn wsX2_nearestTarget wsX2_fewestTo := goodIn_r _ [13, 14, 15, 16, 17, 18, 19, 20, 21, 22, 23, 24, 25, 26, 27, 28, 29, 30, 31, 32, 33, 34, 35, 36, 37, 38, 39, 40, 41, 42, 43, 44, 45, 46, 47, 48, 49, 50, 51, 52, 53, 54, 55, 56, 57, 58, 59, 60, 61, 62, 63, 64, 65, 66, 67, 68, 69, 70, 71, 72, 73, 74, 75, 76, 77, 78, 79, 80, 81, 82, 83] (by decide +kernel) (by decide +kernel)
set_option maxRecDepth 20000 in
theorem gX2_nearestTarget_X2_fewestTo : GoodIn wsX2_nearestTarget (wsV RX2 101 RX2 yX2_fewestTo wsX2_fewestTo) := goodIn_app (goodIn_of _ (by decide +kernel)) ggX2_nearestTarget_X2_fewestTo
theorem dX2_nearestTarget_0 : decode cX2_nearestTarget 0 = .ok (.iconst (-1), 1) := by decide +kernel
theorem dX2_nearestTarget_1 : decode cX2_nearestTarget 1 = .ok (.istore_n 1, 1) := by decide +kernel
theorem dX2_nearestTarget_2 : decode cX2_nearestTarget 2 = .ok (.iconst (-1), 1) := by decide +kernel
theorem dX2_nearestTarget_3 : decode cX2_nearestTarget 3 = .ok (.istore_n 2, 1) := by decide +kernel
theorem dX2_nearestTarget_4 : decode cX2_nearestTarget 4 = .ok (.iconst 0, 1) := by decide +kernel
theorem dX2_nearestTarget_5 : decode cX2_nearestTarget 5 = .ok (.istore_n 3, 1) := by decide +kernel
theorem dX2_nearestTarget_6 : decode cX2_nearestTarget 6 = .ok (.iload_n 3, 1) := by decide +kernel
theorem dX2_nearestTarget_7 : decode cX2_nearestTarget 7 = .ok (.aload_n 0, 1) := by decide +kernel
theorem dX2_nearestTarget_8 : decode cX2_nearestTarget 8 = .ok (.getfield 20, 3) := by decide +kernel
theorem dX2_nearestTarget_11 : decode cX2_nearestTarget 11 = .ok (.if_icmp .ge 40, 3) := by decide +kernel
theorem dX2_nearestTarget_14 : decode cX2_nearestTarget 14 = .ok (.aload_n 0, 1) := by decide +kernel
theorem dX2_nearestTarget_15 : decode cX2_nearestTarget 15 = .ok (.aload_n 0, 1) := by decide +kernel
theorem dX2_nearestTarget_16 : decode cX2_nearestTarget 16 = .ok (.iload_n 3, 1) := by decide +kernel
theorem dX2_nearestTarget_17 : decode cX2_nearestTarget 17 = .ok (.invokevirtual 85, 3) := by decide +kernel
theorem dX2_nearestTarget_20 : decode cX2_nearestTarget 20 = .ok (.invokevirtual 101, 3) := by decide +kernel
theorem dX2_nearestTarget_23 : decode cX2_nearestTarget 23 = .ok (.istore 4, 2) := by decide +kernel
theorem dX2_nearestTarget_25 : decode cX2_nearestTarget 25 = .ok (.iload 4, 2) := by decide +kernel
theorem dX2_nearestTarget_27 : decode cX2_nearestTarget 27 = .ok (.ifCond .lt 18, 3) := by decide +kernel
theorem dX2_nearestTarget_30 : decode cX2_nearestTarget 30 = .ok (.iload_n 1, 1) := by decide +kernel
theorem dX2_nearestTarget_31 : decode cX2_nearestTarget 31 = .ok (.ifCond .lt 9, 3) := by decide +kernel
theorem dX2_nearestTarget_34 : decode cX2_nearestTarget 34 = .ok (.iload 4, 2) := by decide +kernel
theorem dX2_nearestTarget_36 : decode cX2_nearestTarget 36 = .ok (.iload_n 2, 1) := by decide +kernel
theorem dX2_nearestTarget_37 : decode cX2_nearestTarget 37 = .ok (.if_icmp .ge 8, 3) := by decide +kernel
theorem dX2_nearestTarget_40 : decode cX2_nearestTarget 40 = .ok (.iload_n 3, 1) := by decide +kernel
theorem dX2_nearestTarget_41 : decode cX2_nearestTarget 41 = .ok (.istore_n 1, 1) := by decide +kernel
theorem dX2_nearestTarget_42 : decode cX2_nearestTarget 42 = .ok (.iload 4, 2) := by decide +kernel
theorem dX2_nearestTarget_44 : decode cX2_nearestTarget 44 = .ok (.istore_n 2, 1) := by decide +kernel
theorem dX2_nearestTarget_45 : decode cX2_nearestTarget 45 = .ok (.iinc 3 1, 3) := by decide +kernel
theorem dX2_nearestTarget_48 : decode cX2_nearestTarget 48 = .ok (.goto (-42), 3) := by decide +kernel
theorem dX2_nearestTarget_51 : decode cX2_nearestTarget 51 = .ok (.iload_n 1, 1) := by decide +kernel
theorem dX2_nearestTarget_52 : decode cX2_nearestTarget 52 = .ok (.ireturn, 1) := by decide +kernel
set_option maxRecDepth 20000 in
theorem ggX2_stepsToRest_X2_tryToRest : GoodIn wsX2_stepsToRest wsX2_tryToRest := goodIn_r _ [5, 6, 7, 8, 9, 10, 11, 12, 13, 14, 15, 16, 17, 18, 19, 20, 21, 22, 23, 24, 25, 26, 27, 28, 29, 30, 31, 32, 33, 34, 35, 36, 37, 38, 39, 40, 41, 42, 43, 44, 45, 46, 47, 48, 49, 50, 51, 52, 53, 54, 55] (by decide +kernel) (by decide +kernel)
set_option maxRecDepth 20000 in
theorem gX2_stepsToRest_X2_tryToRest : GoodIn wsX2_stepsToRest (wsV RX2 141 RX2 yX2_tryToRest wsX2_tryToRest) := goodIn_app (goodIn_of _ (by decide +kernel)) ggX2_stepsToRest_X2_tryToRest
theorem dX2_stepsToRest_0 : decode cX2_stepsToRest 0 = .ok (.aload_n 0, 1) := by decide +kernel
theorem dX2_stepsToRest_1 : decode cX2_stepsToRest 1 = .ok (.invokevirtual 141, 3) := by decide +kernel
theorem dX2_stepsToRest_4 : decode cX2_stepsToRest 4 = .ok (.ireturn, 1) := by decide +kernel
set_option maxRecDepth 20000 in
theorem ggX2_spreadAtRest_X2_tryToRest : GoodIn wsX2_spreadAtRest wsX2_tryToRest := goodIn_r _ [6, 1, 7, 8, 9, 10, 11, 12, 13, 14, 15, 16, 17, 18, 19, 20, 21, 22, 23, 24, 25, 26, 27, 28, 29, 30, 31, 32, 33, 34, 35, 36, 37, 38, 39, 40, 41, 42, 43, 44, 45, 46, 47, 60, 61, 62, 63, 64, 65, 66, 67] (by decide +kernel) (by decide +kernel)
set_option maxRecDepth 20000 in
theorem gX2_spreadAtRest_X2_tryToRest : GoodIn wsX2_spreadAtRest (wsV RX2 141 RX2 yX2_tryToRest wsX2_tryToRest) := goodIn_app (goodIn_of _ (by decide +kernel)) ggX2_spreadAtRest_X2_tryToRest
set_option maxRecDepth 20000 in
theorem ggX2_spreadAtRest_X0_span : GoodIn wsX2_spreadAtRest wsX0_span := goodIn_r _ [51, 13, 52, 53, 54, 55, 15, 16, 17, 11, 18, 14, 56, 57, 58, 59, 66, 67] (by decide +kernel) (by decide +kernel)
set_option maxRecDepth 20000 in
theorem gX2_spreadAtRest_X0_span : GoodIn wsX2_spreadAtRest (wsV RX2 111 RX0 yX0_span wsX0_span) := goodIn_app (goodIn_of _ (by decide +kernel)) ggX2_spreadAtRest_X0_span
theorem dX2_spreadAtRest_0 : decode cX2_spreadAtRest 0 = .ok (.aload_n 0, 1) := by decide +kernel
theorem dX2_spreadAtRest_1 : decode cX2_spreadAtRest 1 = .ok (.invokevirtual 141, 3) := by decide +kernel
theorem dX2_spreadAtRest_4 : decode cX2_spreadAtRest 4 = .ok (.ifCond .ge 7, 3) := by decide +kernel
theorem dX2_spreadAtRest_7 : decode cX2_spreadAtRest 7 = .ok (.iconst (-1), 1) := by decide +kernel
theorem dX2_spreadAtRest_8 : decode cX2_spreadAtRest 8 = .ok (.goto 10, 3) := by decide +kernel
theorem dX2_spreadAtRest_11 : decode cX2_spreadAtRest 11 = .ok (.aload_n 0, 1) := by decide +kernel
theorem dX2_spreadAtRest_12 : decode cX2_spreadAtRest 12 = .ok (.getfield 27, 3) := by decide +kernel
theorem dX2_spreadAtRest_15 : decode cX2_spreadAtRest 15 = .ok (.invokevirtual 111, 3) := by decide +kernel
theorem dX2_spreadAtRest_18 : decode cX2_spreadAtRest 18 = .ok (.ireturn, 1) := by decide +kernel
set_option maxRecDepth 20000 in
theorem ggX2_spreadWith_X2_requirePlace : GoodIn wsX2_spreadWith wsX2_requirePlace := goodIn_ca (goodIn_r _ [5, 6, 7, 8, 9, 10, 11, 12, 13, 14, 63, 64, 65, 66, 67, 68, 69, 70] (by decide +kernel) (by decide +kernel)) (goodIn_sub (fun _ h => List.mem_cons_of_mem _ (List.mem_append_left _ (List.mem_append_right _ h))) (by decide +kernel))
set_option maxRecDepth 20000 in
theorem gX2_spreadWith_X2_requirePlace : GoodIn wsX2_spreadWith (wsV RX2 52 RX2 yX2_requirePlace wsX2_requirePlace) := goodIn_app (goodIn_of _ (by decide +kernel)) ggX2_spreadWith_X2_requirePlace
set_option maxRecDepth 20000 in
theorem ggX2_spreadWith_X2_requireTimes : GoodIn wsX2_spreadWith wsX2_requireTimes := goodIn_ca (goodIn_r _ [18, 19, 20] (by decide +kernel) (by decide +kernel)) (goodIn_sub (fun _ h => List.mem_cons_of_mem _ (List.mem_append_right _ h)) (by decide +kernel))
set_option maxRecDepth 20000 in
theorem gX2_spreadWith_X2_requireTimes : GoodIn wsX2_spreadWith (wsV RX2 66 RX2 yX2_requireTimes wsX2_requireTimes) := goodIn_app (goodIn_of _ (by decide +kernel)) ggX2_spreadWith_X2_requireTimes
set_option maxRecDepth 20000 in
theorem ggX2_spreadWith_X2_spanAfter : GoodIn wsX2_spreadWith wsX2_spanAfter := goodIn_r _ [24, 25, 8, 26, 27, 28, 12, 29, 14, 30, 31, 32, 33, 34, 35, 36, 37, 38, 39, 40, 41, 42, 43, 44, 45, 46, 47, 48, 49, 50, 51, 52, 53, 54, 55, 56, 57, 58, 59, 60, 61, 62, 63, 64, 65, 66, 67, 68, 69, 70] (by decide +kernel) (by decide +kernel)
set_option maxRecDepth 20000 in
theorem gX2_spreadWith_X2_spanAfter : GoodIn wsX2_spreadWith (wsV RX2 144 RX2 yX2_spanAfter wsX2_spanAfter) := goodIn_app (goodIn_of _ (by decide +kernel)) ggX2_spreadWith_X2_spanAfter
theorem dX2_spreadWith_0 : decode cX2_spreadWith 0 = .ok (.aload_n 0, 1) := by decide +kernel
theorem dX2_spreadWith_1 : decode cX2_spreadWith 1 = .ok (.iload_n 1, 1) := by decide +kernel
theorem dX2_spreadWith_2 : decode cX2_spreadWith 2 = .ok (.invokevirtual 52, 3) := by decide +kernel
theorem dX2_spreadWith_5 : decode cX2_spreadWith 5 = .ok (.aload_n 0, 1) := by decide +kernel
theorem dX2_spreadWith_6 : decode cX2_spreadWith 6 = .ok (.iload_n 2, 1) := by decide +kernel
theorem dX2_spreadWith_7 : decode cX2_spreadWith 7 = .ok (.invokevirtual 66, 3) := by decide +kernel
theorem dX2_spreadWith_10 : decode cX2_spreadWith 10 = .ok (.aload_n 0, 1) := by decide +kernel
theorem dX2_spreadWith_11 : decode cX2_spreadWith 11 = .ok (.iload_n 1, 1) := by decide +kernel
theorem dX2_spreadWith_12 : decode cX2_spreadWith 12 = .ok (.iload_n 2, 1) := by decide +kernel
theorem dX2_spreadWith_13 : decode cX2_spreadWith 13 = .ok (.invokevirtual 144, 3) := by decide +kernel
theorem dX2_spreadWith_16 : decode cX2_spreadWith 16 = .ok (.ireturn, 1) := by decide +kernel
set_option maxRecDepth 20000 in
theorem ggX2_bestPlace_X0_span : GoodIn wsX2_bestPlace wsX0_span := goodIn_r _ [10, 11, 12, 3, 4, 5, 13, 14, 15, 9, 16, 17, 18, 19, 20, 21, 58, 59] (by decide +kernel) (by decide +kernel)
set_option maxRecDepth 20000 in
theorem gX2_bestPlace_X0_span : GoodIn wsX2_bestPlace (wsV RX2 111 RX0 yX0_span wsX0_span) := goodIn_app (goodIn_of _ (by decide +kernel)) ggX2_bestPlace_X0_span
set_option maxRecDepth 20000 in
theorem ggX2_bestPlace_X0_size : GoodIn wsX2_bestPlace wsX0_size := goodIn_r _ [25, 11, 58, 59] (by decide +kernel) (by decide +kernel)
set_option maxRecDepth 20000 in
theorem gX2_bestPlace_X0_size : GoodIn wsX2_bestPlace (wsV RX2 44 RX0 yX0_size wsX0_size) := goodIn_app (goodIn_of _ (by decide +kernel)) ggX2_bestPlace_X0_size
set_option maxRecDepth 20000 in
theorem ggX2_bestPlace_X2_spanAfter : GoodIn wsX2_bestPlace wsX2_spanAfter := goodIn_r _ [30, 31, 1, 32, 33, 34, 9, 35, 11, 17, 13, 14, 15, 16, 36, 37, 38, 39, 40, 41, 42, 43, 44, 45, 46, 47, 48, 49, 50, 51, 6, 7, 8, 10, 12, 3, 4, 5, 18, 19, 20, 21, 52, 53, 54, 55, 56, 57, 58, 59] (by decide +kernel) (by decide +kernel)
set_option maxRecDepth 20000 in
theorem gX2_bestPlace_X2_spanAfter : GoodIn wsX2_bestPlace (wsV RX2 144 RX2 yX2_spanAfter wsX2_spanAfter) := goodIn_app (goodIn_of _ (by decide +kernel)) ggX2_bestPlace_X2_spanAfter
theorem dX2_bestPlace_0 : decode cX2_bestPlace 0 = .ok (.iconst (-1), 1) := by decide +kernel
theorem dX2_bestPlace_1 : decode cX2_bestPlace 1 = .ok (.istore_n 1, 1) := by decide +kernel
theorem dX2_bestPlace_2 : decode cX2_bestPlace 2 = .ok (.aload_n 0, 1) := by decide +kernel
theorem dX2_bestPlace_3 : decode cX2_bestPlace 3 = .ok (.getfield 10, 3) := by decide +kernel
theorem dX2_bestPlace_6 : decode cX2_bestPlace 6 = .ok (.invokevirtual 111, 3) := by decide +kernel
theorem dX2_bestPlace_9 : decode cX2_bestPlace 9 = .ok (.istore_n 2, 1) := by decide +kernel
theorem dX2_bestPlace_10 : decode cX2_bestPlace 10 = .ok (.iconst 0, 1) := by decide +kernel
theorem dX2_bestPlace_11 : decode cX2_bestPlace 11 = .ok (.istore_n 3, 1) := by decide +kernel
theorem dX2_bestPlace_12 : decode cX2_bestPlace 12 = .ok (.iload_n 3, 1) := by decide +kernel
theorem dX2_bestPlace_13 : decode cX2_bestPlace 13 = .ok (.aload_n 0, 1) := by decide +kernel
theorem dX2_bestPlace_14 : decode cX2_bestPlace 14 = .ok (.getfield 10, 3) := by decide +kernel
theorem dX2_bestPlace_17 : decode cX2_bestPlace 17 = .ok (.invokevirtual 44, 3) := by decide +kernel
theorem dX2_bestPlace_20 : decode cX2_bestPlace 20 = .ok (.if_icmp .ge 37, 3) := by decide +kernel
theorem dX2_bestPlace_23 : decode cX2_bestPlace 23 = .ok (.aload_n 0, 1) := by decide +kernel
theorem dX2_bestPlace_24 : decode cX2_bestPlace 24 = .ok (.iload_n 3, 1) := by decide +kernel
theorem dX2_bestPlace_25 : decode cX2_bestPlace 25 = .ok (.iconst 1, 1) := by decide +kernel
theorem dX2_bestPlace_26 : decode cX2_bestPlace 26 = .ok (.invokevirtual 144, 3) := by decide +kernel
theorem dX2_bestPlace_29 : decode cX2_bestPlace 29 = .ok (.aload_n 0, 1) := by decide +kernel
theorem dX2_bestPlace_30 : decode cX2_bestPlace 30 = .ok (.iload_n 3, 1) := by decide +kernel
theorem dX2_bestPlace_31 : decode cX2_bestPlace 31 = .ok (.iconst (-1), 1) := by decide +kernel
theorem dX2_bestPlace_32 : decode cX2_bestPlace 32 = .ok (.invokevirtual 144, 3) := by decide +kernel
theorem dX2_bestPlace_35 : decode cX2_bestPlace 35 = .ok (.invokestatic 148, 3) := by decide +kernel
theorem dX2_bestPlace_38 : decode cX2_bestPlace 38 = .ok (.istore 4, 2) := by decide +kernel
theorem dX2_bestPlace_40 : decode cX2_bestPlace 40 = .ok (.iload 4, 2) := by decide +kernel
theorem dX2_bestPlace_42 : decode cX2_bestPlace 42 = .ok (.iload_n 2, 1) := by decide +kernel
theorem dX2_bestPlace_43 : decode cX2_bestPlace 43 = .ok (.if_icmp .ge 8, 3) := by decide +kernel
theorem dX2_bestPlace_46 : decode cX2_bestPlace 46 = .ok (.iload_n 3, 1) := by decide +kernel
theorem dX2_bestPlace_47 : decode cX2_bestPlace 47 = .ok (.istore_n 1, 1) := by decide +kernel
theorem dX2_bestPlace_48 : decode cX2_bestPlace 48 = .ok (.iload 4, 2) := by decide +kernel
theorem dX2_bestPlace_50 : decode cX2_bestPlace 50 = .ok (.istore_n 2, 1) := by decide +kernel
theorem dX2_bestPlace_51 : decode cX2_bestPlace 51 = .ok (.iinc 3 1, 3) := by decide +kernel
theorem dX2_bestPlace_54 : decode cX2_bestPlace 54 = .ok (.goto (-42), 3) := by decide +kernel
theorem dX2_bestPlace_57 : decode cX2_bestPlace 57 = .ok (.iload_n 1, 1) := by decide +kernel
theorem dX2_bestPlace_58 : decode cX2_bestPlace 58 = .ok (.ireturn, 1) := by decide +kernel
set_option maxRecDepth 20000 in
theorem ggX2_placeFor_X2_requireNumber : GoodIn wsX2_placeFor wsX2_requireNumber := goodIn_ca (goodIn_r _ [6, 7, 8] (by decide +kernel) (by decide +kernel)) (goodIn_sub (fun _ h => List.mem_cons_of_mem _ (List.mem_append_left _ (List.mem_append_right _ h))) (by decide +kernel))
set_option maxRecDepth 20000 in
theorem gX2_placeFor_X2_requireNumber : GoodIn wsX2_placeFor (wsV RX2 55 RX2 yX2_requireNumber wsX2_requireNumber) := goodIn_app (goodIn_of _ (by decide +kernel)) ggX2_placeFor_X2_requireNumber
set_option maxRecDepth 20000 in
theorem ggX2_placeFor_X2_keptRing : GoodIn wsX2_placeFor wsX2_keptRing := goodIn_ca (goodIn_r _ [12, 13, 14, 1, 15, 58, 59, 60, 61, 62, 63] (by decide +kernel) (by decide +kernel)) (goodIn_sub (fun _ h => List.mem_cons_of_mem _ (List.mem_append_right _ h)) (by decide +kernel))
set_option maxRecDepth 20000 in
theorem gX2_placeFor_X2_keptRing : GoodIn wsX2_placeFor (wsV RX2 85 RX2 yX2_keptRing wsX2_keptRing) := goodIn_app (goodIn_of _ (by decide +kernel)) ggX2_placeFor_X2_keptRing
set_option maxRecDepth 20000 in
theorem ggX2_placeFor_X2_firstPlaceFor : GoodIn wsX2_placeFor wsX2_firstPlaceFor := goodIn_r _ [19, 20, 21, 22, 23, 24, 25, 26, 27, 28, 29, 30, 31, 32, 33, 34, 35, 36, 37, 38, 39, 40, 41, 42, 43, 44, 45, 46, 47, 48, 49, 50, 51, 52, 53, 54, 55, 56, 57, 58, 59, 60, 61, 62, 63, 64, 65] (by decide +kernel) (by decide +kernel)
set_option maxRecDepth 20000 in
theorem gX2_placeFor_X2_firstPlaceFor : GoodIn wsX2_placeFor (wsV RX2 151 RX2 yX2_firstPlaceFor wsX2_firstPlaceFor) := goodIn_app (goodIn_of _ (by decide +kernel)) ggX2_placeFor_X2_firstPlaceFor
theorem dX2_placeFor_0 : decode cX2_placeFor 0 = .ok (.aload_n 0, 1) := by decide +kernel
theorem dX2_placeFor_1 : decode cX2_placeFor 1 = .ok (.iload_n 1, 1) := by decide +kernel
theorem dX2_placeFor_2 : decode cX2_placeFor 2 = .ok (.invokevirtual 55, 3) := by decide +kernel
theorem dX2_placeFor_5 : decode cX2_placeFor 5 = .ok (.aload_n 0, 1) := by decide +kernel
theorem dX2_placeFor_6 : decode cX2_placeFor 6 = .ok (.getfield 20, 3) := by decide +kernel
theorem dX2_placeFor_9 : decode cX2_placeFor 9 = .ok (.ifCond .ne 7, 3) := by decide +kernel
theorem dX2_placeFor_12 : decode cX2_placeFor 12 = .ok (.iconst (-1), 1) := by decide +kernel
theorem dX2_placeFor_13 : decode cX2_placeFor 13 = .ok (.goto 13, 3) := by decide +kernel
theorem dX2_placeFor_16 : decode cX2_placeFor 16 = .ok (.aload_n 0, 1) := by decide +kernel
theorem dX2_placeFor_17 : decode cX2_placeFor 17 = .ok (.iload_n 1, 1) := by decide +kernel
theorem dX2_placeFor_18 : decode cX2_placeFor 18 = .ok (.aload_n 0, 1) := by decide +kernel
theorem dX2_placeFor_19 : decode cX2_placeFor 19 = .ok (.iconst 0, 1) := by decide +kernel
theorem dX2_placeFor_20 : decode cX2_placeFor 20 = .ok (.invokevirtual 85, 3) := by decide +kernel
theorem dX2_placeFor_23 : decode cX2_placeFor 23 = .ok (.invokevirtual 151, 3) := by decide +kernel
theorem dX2_placeFor_26 : decode cX2_placeFor 26 = .ok (.ireturn, 1) := by decide +kernel
set_option maxRecDepth 20000 in
theorem ggX2_meanNumber_X0_size : GoodIn wsX2_meanNumber wsX0_size := goodIn_r _ [6, 7, 23, 24] (by decide +kernel) (by decide +kernel)
set_option maxRecDepth 20000 in
theorem gX2_meanNumber_X0_size : GoodIn wsX2_meanNumber (wsV RX2 44 RX0 yX0_size wsX0_size) := goodIn_app (goodIn_of _ (by decide +kernel)) ggX2_meanNumber_X0_size
set_option maxRecDepth 20000 in
theorem ggX2_meanNumber_X0_total : GoodIn wsX2_meanNumber wsX0_total := goodIn_r _ [11, 7, 12, 13, 14, 5, 15, 16, 23, 24] (by decide +kernel) (by decide +kernel)
set_option maxRecDepth 20000 in
theorem gX2_meanNumber_X0_total : GoodIn wsX2_meanNumber (wsV RX2 105 RX0 yX0_total wsX0_total) := goodIn_app (goodIn_of _ (by decide +kernel)) ggX2_meanNumber_X0_total
theorem dX2_meanNumber_0 : decode cX2_meanNumber 0 = .ok (.aload_n 0, 1) := by decide +kernel
theorem dX2_meanNumber_1 : decode cX2_meanNumber 1 = .ok (.getfield 10, 3) := by decide +kernel
theorem dX2_meanNumber_4 : decode cX2_meanNumber 4 = .ok (.invokevirtual 44, 3) := by decide +kernel
theorem dX2_meanNumber_7 : decode cX2_meanNumber 7 = .ok (.istore_n 1, 1) := by decide +kernel
theorem dX2_meanNumber_8 : decode cX2_meanNumber 8 = .ok (.iload_n 1, 1) := by decide +kernel
theorem dX2_meanNumber_9 : decode cX2_meanNumber 9 = .ok (.ifCond .le 17, 3) := by decide +kernel
theorem dX2_meanNumber_12 : decode cX2_meanNumber 12 = .ok (.aload_n 0, 1) := by decide +kernel
theorem dX2_meanNumber_13 : decode cX2_meanNumber 13 = .ok (.getfield 10, 3) := by decide +kernel
theorem dX2_meanNumber_16 : decode cX2_meanNumber 16 = .ok (.invokevirtual 105, 3) := by decide +kernel
theorem dX2_meanNumber_19 : decode cX2_meanNumber 19 = .ok (.i2d, 1) := by decide +kernel
theorem dX2_meanNumber_20 : decode cX2_meanNumber 20 = .ok (.iload_n 1, 1) := by decide +kernel
theorem dX2_meanNumber_21 : decode cX2_meanNumber 21 = .ok (.i2d, 1) := by decide +kernel
theorem dX2_meanNumber_22 : decode cX2_meanNumber 22 = .ok (.ddiv, 1) := by decide +kernel
theorem dX2_meanNumber_23 : decode cX2_meanNumber 23 = .ok (.goto 4, 3) := by decide +kernel
theorem dX2_meanNumber_26 : decode cX2_meanNumber 26 = .ok (.dconst 0, 1) := by decide +kernel
theorem dX2_meanNumber_27 : decode cX2_meanNumber 27 = .ok (.dreturn, 1) := by decide +kernel
set_option maxRecDepth 20000 in
theorem ggX2_digest_X2_places : GoodIn wsX2_digest wsX2_places := goodIn_r _ [6, 7, 8, 9, 10, 11, 12, 13, 235, 236, 237, 238, 239, 240, 241, 242] (by decide +kernel) (by decide +kernel)
set_option maxRecDepth 20000 in
theorem gX2_digest_X2_places : GoodIn wsX2_digest (wsV RX2 157 RX2 yX2_places wsX2_places) := goodIn_app (goodIn_of _ (by decide +kernel)) ggX2_digest_X2_places
set_option maxRecDepth 20000 in
theorem ggX2_digest_X2_mixed : GoodIn wsX2_digest wsX2_mixed := goodIn_r _ [16, 17] (by decide +kernel) (by decide +kernel)
set_option maxRecDepth 20000 in
theorem gX2_digest_X2_mixed : GoodIn wsX2_digest (va_wsS RX2 160 yX2_mixed wsX2_mixed) := goodIn_app (goodIn_of _ (by decide +kernel)) ggX2_digest_X2_mixed
set_option maxRecDepth 20000 in
theorem ggX2_digest_X2_targets : GoodIn wsX2_digest wsX2_targets := goodIn_r _ [21, 22, 235, 236, 237, 238, 239, 240] (by decide +kernel) (by decide +kernel)
set_option maxRecDepth 20000 in
theorem gX2_digest_X2_targets : GoodIn wsX2_digest (wsV RX2 164 RX2 yX2_targets wsX2_targets) := goodIn_app (goodIn_of _ (by decide +kernel)) ggX2_digest_X2_targets
set_option maxRecDepth 20000 in
theorem ggX2_digest_X2_tips : GoodIn wsX2_digest wsX2_tips := goodIn_r _ [26, 27, 235, 236, 237, 238, 239, 240] (by decide +kernel) (by decide +kernel)
set_option maxRecDepth 20000 in
theorem gX2_digest_X2_tips : GoodIn wsX2_digest (wsV RX2 167 RX2 yX2_tips wsX2_tips) := goodIn_app (goodIn_of _ (by decide +kernel)) ggX2_digest_X2_tips
set_option maxRecDepth 20000 in
theorem ggX2_digest_X2_sum : GoodIn wsX2_digest wsX2_sum := goodIn_r _ [31, 7, 32, 33, 34, 11, 35, 13, 36, 37, 38, 39, 40, 235, 236, 237, 238, 239, 240, 241, 242] (by decide +kernel) (by decide +kernel)
set_option maxRecDepth 20000 in
theorem gX2_digest_X2_sum : GoodIn wsX2_digest (wsV RX2 170 RX2 yX2_sum wsX2_sum) := goodIn_app (goodIn_of _ (by decide +kernel)) ggX2_digest_X2_sum
set_option maxRecDepth 20000 in
theorem ggX2_digest_X2_moment : GoodIn wsX2_digest wsX2_moment := goodIn_r _ [44, 7, 45, 46, 47, 11, 48, 13, 36, 37, 38, 39, 40, 49, 50, 51, 52, 235, 236, 237, 238, 239, 240, 241, 242] (by decide +kernel) (by decide +kernel)
set_option maxRecDepth 20000 in
theorem gX2_digest_X2_moment : GoodIn wsX2_digest (wsV RX2 173 RX2 yX2_moment wsX2_moment) := goodIn_app (goodIn_of _ (by decide +kernel)) ggX2_digest_X2_moment
set_option maxRecDepth 20000 in
theorem ggX2_digest_X2_spread : GoodIn wsX2_digest wsX2_spread := goodIn_r _ [56, 7, 57, 58, 59, 11, 60, 13, 61, 62, 63, 64, 36, 37, 38, 39, 40, 65, 66, 67, 68, 235, 236, 237, 238, 239, 240, 241, 242] (by decide +kernel) (by decide +kernel)
set_option maxRecDepth 20000 in
theorem gX2_digest_X2_spread : GoodIn wsX2_digest (wsV RX2 176 RX2 yX2_spread wsX2_spread) := goodIn_app (goodIn_of _ (by decide +kernel)) ggX2_digest_X2_spread
set_option maxRecDepth 20000 in
theorem ggX2_digest_X2_highest : GoodIn wsX2_digest wsX2_highest := goodIn_r _ [72, 7, 73, 66, 67, 11, 68, 13, 36, 37, 38, 39, 40, 235, 236, 237, 238, 239, 240, 241, 242] (by decide +kernel) (by decide +kernel)
set_option maxRecDepth 20000 in
theorem gX2_digest_X2_highest : GoodIn wsX2_digest (wsV RX2 179 RX2 yX2_highest wsX2_highest) := goodIn_app (goodIn_of _ (by decide +kernel)) ggX2_digest_X2_highest
set_option maxRecDepth 20000 in
theorem ggX2_digest_X2_steepPlaces : GoodIn wsX2_digest wsX2_steepPlaces := goodIn_r _ [77, 7, 8, 9, 10, 11, 12, 13, 78, 79, 80, 81, 36, 37, 38, 39, 40, 82, 83, 84, 85, 235, 236, 237, 238, 239, 240, 241, 242] (by decide +kernel) (by decide +kernel)
set_option maxRecDepth 20000 in
theorem gX2_digest_X2_steepPlaces : GoodIn wsX2_digest (wsV RX2 182 RX2 yX2_steepPlaces wsX2_steepPlaces) := goodIn_app (goodIn_of _ (by decide +kernel)) ggX2_digest_X2_steepPlaces
set_option maxRecDepth 20000 in
theorem ggX2_digest_X2_nextToTip : GoodIn wsX2_digest wsX2_nextToTip := goodIn_r _ [89, 7, 90, 91, 92, 11, 93, 13, 94, 79, 80, 81, 36, 37, 38, 39, 40, 82, 83, 84, 85, 235, 236, 237, 238, 239, 240, 241, 242] (by decide +kernel) (by decide +kernel)
set_option maxRecDepth 20000 in
theorem gX2_digest_X2_nextToTip : GoodIn wsX2_digest (wsV RX2 185 RX2 yX2_nextToTip wsX2_nextToTip) := goodIn_app (goodIn_of _ (by decide +kernel)) ggX2_digest_X2_nextToTip
set_option maxRecDepth 20000 in
theorem ggX2_digest_X2_levelAxes : GoodIn wsX2_digest wsX2_levelAxes := goodIn_r _ [98, 7, 8, 9, 10, 11, 12, 13, 99, 100, 101, 102, 82, 83, 84, 85, 36, 37, 38, 39, 40, 235, 236, 237, 238, 239, 240, 241, 242] (by decide +kernel) (by decide +kernel)
set_option maxRecDepth 20000 in
theorem gX2_digest_X2_levelAxes : GoodIn wsX2_digest (wsV RX2 188 RX2 yX2_levelAxes wsX2_levelAxes) := goodIn_app (goodIn_of _ (by decide +kernel)) ggX2_digest_X2_levelAxes
set_option maxRecDepth 20000 in
theorem ggX2_digest_X2_bestAxis : GoodIn wsX2_digest wsX2_bestAxis := goodIn_r _ [106, 7, 107, 108, 63, 109, 8, 9, 10, 11, 12, 13, 99, 100, 101, 102, 82, 83, 84, 85, 36, 37, 38, 39, 40, 235, 236, 237, 238, 239, 240, 241, 242] (by decide +kernel) (by decide +kernel)
set_option maxRecDepth 20000 in
theorem gX2_digest_X2_bestAxis : GoodIn wsX2_digest (wsV RX2 191 RX2 yX2_bestAxis wsX2_bestAxis) := goodIn_app (goodIn_of _ (by decide +kernel)) ggX2_digest_X2_bestAxis
set_option maxRecDepth 20000 in
theorem ggX2_digest_X2_reachable : GoodIn wsX2_digest wsX2_reachable := goodIn_ca (goodIn_r _ [113, 22, 7, 114, 115, 116, 5, 117, 118, 119, 120, 121, 122, 123, 11, 124, 125, 33, 34, 35, 13, 36, 37, 38, 39, 40, 126, 46, 47, 48, 49, 50, 51, 52, 235, 236, 237, 238, 239, 240, 241, 242] (by decide +kernel) (by decide +kernel)) (goodIn_sub (fun _ h => List.mem_cons_of_mem _ (List.mem_append_left _ (List.mem_append_right _ h))) (by decide +kernel))
set_option maxRecDepth 20000 in
theorem gX2_digest_X2_reachable : GoodIn wsX2_digest (wsV RX2 194 RX2 yX2_reachable wsX2_reachable) := goodIn_app (goodIn_of _ (by decide +kernel)) ggX2_digest_X2_reachable
set_option maxRecDepth 20000 in
theorem ggX2_digest_X2_nearestTarget : GoodIn wsX2_digest wsX2_nearestTarget := goodIn_ca (goodIn_r _ [130, 22, 114, 115, 116, 5, 117, 118, 119, 120, 131, 132, 133, 134, 7, 135, 121, 122, 123, 11, 124, 125, 33, 34, 35, 13, 36, 37, 38, 39, 40, 126, 46, 47, 48, 49, 50, 51, 52, 136, 137, 138, 139, 140, 141, 142, 143, 9, 10, 12, 144, 145, 146, 147, 148, 149, 150, 151, 152, 153, 62, 63, 64, 154, 155, 156, 157, 158, 159, 160, 161, 162, 108, 109, 235, 236, 237, 238, 239, 240, 241, 242, 243, 244] (by decide +kernel) (by decide +kernel)) (goodIn_sub (fun _ h => List.mem_cons_of_mem _ (List.mem_append_left _ (List.mem_append_right _ h))) (by decide +kernel))
set_option maxRecDepth 20000 in
theorem gX2_digest_X2_nearestTarget : GoodIn wsX2_digest (wsV RX2 197 RX2 yX2_nearestTarget wsX2_nearestTarget) := goodIn_app (goodIn_of _ (by decide +kernel)) ggX2_digest_X2_nearestTarget
set_option maxRecDepth 20000 in
theorem ggX2_digest_X2_stepsToRest : GoodIn wsX2_digest wsX2_stepsToRest := goodIn_r _ [166, 167, 168, 169, 5, 170, 171, 7, 172, 173, 174, 11, 175, 13, 40, 36, 37, 38, 39, 176, 177, 178, 179, 180, 181, 182, 183, 184, 91, 92, 93, 94, 79, 80, 81, 82, 83, 84, 85, 185, 186, 187, 188, 189, 190, 191, 192, 90, 235, 236, 237, 238, 239, 240, 241, 242] (by decide +kernel) (by decide +kernel)
set_option maxRecDepth 20000 in
theorem gX2_digest_X2_stepsToRest : GoodIn wsX2_digest (wsV RX2 200 RX2 yX2_stepsToRest wsX2_stepsToRest) := goodIn_app (goodIn_of _ (by decide +kernel)) ggX2_digest_X2_stepsToRest
set_option maxRecDepth 20000 in
theorem ggX2_digest_X2_spreadAtRest : GoodIn wsX2_digest wsX2_spreadAtRest := goodIn_r _ [196, 171, 167, 168, 169, 5, 170, 7, 172, 173, 174, 11, 175, 13, 40, 36, 37, 38, 39, 176, 177, 178, 179, 180, 181, 182, 183, 184, 91, 92, 93, 94, 79, 80, 81, 82, 83, 84, 85, 185, 186, 187, 188, 189, 190, 191, 192, 90, 57, 58, 59, 60, 61, 62, 63, 64, 65, 66, 67, 68, 235, 236, 237, 238, 239, 240, 241, 242] (by decide +kernel) (by decide +kernel)
set_option maxRecDepth 20000 in
theorem gX2_digest_X2_spreadAtRest : GoodIn wsX2_digest (wsV RX2 203 RX2 yX2_spreadAtRest wsX2_spreadAtRest) := goodIn_app (goodIn_of _ (by decide +kernel)) ggX2_digest_X2_spreadAtRest
set_option maxRecDepth 20000 in
theorem ggX2_digest_X2_bestPlace : GoodIn wsX2_digest wsX2_bestPlace := goodIn_r _ [200, 7, 201, 62, 63, 64, 57, 58, 59, 11, 60, 13, 61, 36, 37, 38, 39, 40, 65, 66, 67, 68, 8, 9, 10, 12, 202, 203, 204, 5, 205, 171, 172, 173, 174, 175, 176, 177, 178, 179, 206, 186, 187, 188, 189, 190, 191, 192, 82, 83, 84, 85, 235, 236, 237, 238, 239, 240, 241, 242] (by decide +kernel) (by decide +kernel)
set_option maxRecDepth 20000 in
theorem gX2_digest_X2_bestPlace : GoodIn wsX2_digest (wsV RX2 206 RX2 yX2_bestPlace wsX2_bestPlace) := goodIn_app (goodIn_of _ (by decide +kernel)) ggX2_digest_X2_bestPlace
set_option maxRecDepth 20000 in
theorem ggX2_digest_X2_placeFor : GoodIn wsX2_digest wsX2_placeFor := goodIn_ca (goodIn_ca (goodIn_r _ [210, 22, 211, 212, 213, 5, 214, 215, 216, 114, 115, 116, 117, 118, 119, 120, 217, 218, 219, 220, 7, 171, 8, 9, 10, 11, 12, 13, 172, 173, 174, 175, 40, 36, 37, 38, 39, 176, 177, 178, 179, 221, 121, 122, 123, 124, 125, 33, 34, 35, 126, 46, 47, 48, 49, 50, 51, 52, 235, 236, 237, 238, 239, 240, 241, 242] (by decide +kernel) (by decide +kernel)) (goodIn_sub (fun _ h => List.mem_cons_of_mem _ (List.mem_append_right _ h)) (by decide +kernel))) (goodIn_sub (fun _ h => List.mem_cons_of_mem _ (List.mem_append_left _ (List.mem_append_right _ h))) (by decide +kernel))
set_option maxRecDepth 20000 in
theorem gX2_digest_X2_placeFor : GoodIn wsX2_digest (wsV RX2 209 RX2 yX2_placeFor wsX2_placeFor) := goodIn_app (goodIn_of _ (by decide +kernel)) ggX2_digest_X2_placeFor
set_option maxRecDepth 20000 in
theorem ggX2_digest_X2_mixedWithPlaces : GoodIn wsX2_digest wsX2_mixedWithPlaces := goodIn_r _ [225, 7, 8, 9, 10, 11, 12, 13, 226, 37, 38, 39, 40, 14, 15, 5, 16, 17, 78, 79, 80, 81, 36, 82, 83, 84, 85, 99, 100, 101, 102, 235, 236, 237, 238, 239, 240, 241, 242] (by decide +kernel) (by decide +kernel)
set_option maxRecDepth 20000 in
theorem gX2_digest_X2_mixedWithPlaces : GoodIn wsX2_digest (wsV RX2 212 RX2 yX2_mixedWithPlaces wsX2_mixedWithPlaces) := goodIn_app (goodIn_of _ (by decide +kernel)) ggX2_digest_X2_mixedWithPlaces
set_option maxRecDepth 20000 in
theorem ggX2_digest_X2_mixedWithTargets : GoodIn wsX2_digest wsX2_mixedWithTargets := goodIn_ca (goodIn_r _ [230, 22, 7, 114, 115, 116, 5, 117, 118, 119, 120, 231, 232, 233, 11, 234, 13, 36, 37, 38, 39, 40, 14, 15, 16, 17, 121, 122, 123, 124, 125, 33, 34, 35, 126, 46, 47, 48, 49, 50, 51, 52, 131, 132, 133, 134, 135, 136, 137, 138, 139, 140, 141, 142, 143, 9, 10, 12, 144, 145, 146, 147, 148, 149, 150, 151, 152, 153, 62, 63, 64, 154, 155, 156, 157, 158, 159, 160, 161, 162, 108, 109, 235, 236, 237, 238, 239, 240, 241, 242, 243, 244] (by decide +kernel) (by decide +kernel)) (goodIn_sub (fun _ h => List.mem_cons_of_mem _ (List.mem_append_left _ (List.mem_append_right _ h))) (by decide +kernel))
set_option maxRecDepth 20000 in
theorem gX2_digest_X2_mixedWithTargets : GoodIn wsX2_digest (wsV RX2 216 RX2 yX2_mixedWithTargets wsX2_mixedWithTargets) := goodIn_app (goodIn_of _ (by decide +kernel)) ggX2_digest_X2_mixedWithTargets
theorem dX2_digest_0 : decode cX2_digest 0 = .ok (.ldc2_w 155, 3) := by decide +kernel
theorem dX2_digest_3 : decode cX2_digest 3 = .ok (.lstore_n 1, 1) := by decide +kernel
theorem dX2_digest_4 : decode cX2_digest 4 = .ok (.lload_n 1, 1) := by decide +kernel
theorem dX2_digest_5 : decode cX2_digest 5 = .ok (.aload_n 0, 1) := by decide +kernel
theorem dX2_digest_6 : decode cX2_digest 6 = .ok (.invokevirtual 157, 3) := by decide +kernel
theorem dX2_digest_9 : decode cX2_digest 9 = .ok (.i2l, 1) := by decide +kernel
theorem dX2_digest_10 : decode cX2_digest 10 = .ok (.invokestatic 160, 3) := by decide +kernel
theorem dX2_digest_13 : decode cX2_digest 13 = .ok (.lstore_n 1, 1) := by decide +kernel
theorem dX2_digest_14 : decode cX2_digest 14 = .ok (.lload_n 1, 1) := by decide +kernel
theorem dX2_digest_15 : decode cX2_digest 15 = .ok (.aload_n 0, 1) := by decide +kernel
theorem dX2_digest_16 : decode cX2_digest 16 = .ok (.invokevirtual 164, 3) := by decide +kernel
theorem dX2_digest_19 : decode cX2_digest 19 = .ok (.i2l, 1) := by decide +kernel
theorem dX2_digest_20 : decode cX2_digest 20 = .ok (.invokestatic 160, 3) := by decide +kernel
theorem dX2_digest_23 : decode cX2_digest 23 = .ok (.lstore_n 1, 1) := by decide +kernel
theorem dX2_digest_24 : decode cX2_digest 24 = .ok (.lload_n 1, 1) := by decide +kernel
theorem dX2_digest_25 : decode cX2_digest 25 = .ok (.aload_n 0, 1) := by decide +kernel
theorem dX2_digest_26 : decode cX2_digest 26 = .ok (.invokevirtual 167, 3) := by decide +kernel
theorem dX2_digest_29 : decode cX2_digest 29 = .ok (.i2l, 1) := by decide +kernel
theorem dX2_digest_30 : decode cX2_digest 30 = .ok (.invokestatic 160, 3) := by decide +kernel
theorem dX2_digest_33 : decode cX2_digest 33 = .ok (.lstore_n 1, 1) := by decide +kernel
theorem dX2_digest_34 : decode cX2_digest 34 = .ok (.lload_n 1, 1) := by decide +kernel
theorem dX2_digest_35 : decode cX2_digest 35 = .ok (.aload_n 0, 1) := by decide +kernel
theorem dX2_digest_36 : decode cX2_digest 36 = .ok (.invokevirtual 170, 3) := by decide +kernel
theorem dX2_digest_39 : decode cX2_digest 39 = .ok (.i2l, 1) := by decide +kernel
theorem dX2_digest_40 : decode cX2_digest 40 = .ok (.invokestatic 160, 3) := by decide +kernel
theorem dX2_digest_43 : decode cX2_digest 43 = .ok (.lstore_n 1, 1) := by decide +kernel
theorem dX2_digest_44 : decode cX2_digest 44 = .ok (.lload_n 1, 1) := by decide +kernel
theorem dX2_digest_45 : decode cX2_digest 45 = .ok (.aload_n 0, 1) := by decide +kernel
theorem dX2_digest_46 : decode cX2_digest 46 = .ok (.invokevirtual 173, 3) := by decide +kernel
theorem dX2_digest_49 : decode cX2_digest 49 = .ok (.i2l, 1) := by decide +kernel
theorem dX2_digest_50 : decode cX2_digest 50 = .ok (.invokestatic 160, 3) := by decide +kernel
theorem dX2_digest_53 : decode cX2_digest 53 = .ok (.lstore_n 1, 1) := by decide +kernel
theorem dX2_digest_54 : decode cX2_digest 54 = .ok (.lload_n 1, 1) := by decide +kernel
theorem dX2_digest_55 : decode cX2_digest 55 = .ok (.aload_n 0, 1) := by decide +kernel
theorem dX2_digest_56 : decode cX2_digest 56 = .ok (.invokevirtual 176, 3) := by decide +kernel
theorem dX2_digest_59 : decode cX2_digest 59 = .ok (.i2l, 1) := by decide +kernel
theorem dX2_digest_60 : decode cX2_digest 60 = .ok (.invokestatic 160, 3) := by decide +kernel
theorem dX2_digest_63 : decode cX2_digest 63 = .ok (.lstore_n 1, 1) := by decide +kernel
theorem dX2_digest_64 : decode cX2_digest 64 = .ok (.lload_n 1, 1) := by decide +kernel
theorem dX2_digest_65 : decode cX2_digest 65 = .ok (.aload_n 0, 1) := by decide +kernel
theorem dX2_digest_66 : decode cX2_digest 66 = .ok (.invokevirtual 179, 3) := by decide +kernel
theorem dX2_digest_69 : decode cX2_digest 69 = .ok (.i2l, 1) := by decide +kernel
theorem dX2_digest_70 : decode cX2_digest 70 = .ok (.invokestatic 160, 3) := by decide +kernel
theorem dX2_digest_73 : decode cX2_digest 73 = .ok (.lstore_n 1, 1) := by decide +kernel
theorem dX2_digest_74 : decode cX2_digest 74 = .ok (.lload_n 1, 1) := by decide +kernel
theorem dX2_digest_75 : decode cX2_digest 75 = .ok (.aload_n 0, 1) := by decide +kernel
theorem dX2_digest_76 : decode cX2_digest 76 = .ok (.invokevirtual 182, 3) := by decide +kernel
theorem dX2_digest_79 : decode cX2_digest 79 = .ok (.i2l, 1) := by decide +kernel
theorem dX2_digest_80 : decode cX2_digest 80 = .ok (.invokestatic 160, 3) := by decide +kernel
theorem dX2_digest_83 : decode cX2_digest 83 = .ok (.lstore_n 1, 1) := by decide +kernel
theorem dX2_digest_84 : decode cX2_digest 84 = .ok (.lload_n 1, 1) := by decide +kernel
theorem dX2_digest_85 : decode cX2_digest 85 = .ok (.aload_n 0, 1) := by decide +kernel
theorem dX2_digest_86 : decode cX2_digest 86 = .ok (.invokevirtual 185, 3) := by decide +kernel
theorem dX2_digest_89 : decode cX2_digest 89 = .ok (.i2l, 1) := by decide +kernel
theorem dX2_digest_90 : decode cX2_digest 90 = .ok (.invokestatic 160, 3) := by decide +kernel
theorem dX2_digest_93 : decode cX2_digest 93 = .ok (.lstore_n 1, 1) := by decide +kernel
theorem dX2_digest_94 : decode cX2_digest 94 = .ok (.lload_n 1, 1) := by decide +kernel
theorem dX2_digest_95 : decode cX2_digest 95 = .ok (.aload_n 0, 1) := by decide +kernel
theorem dX2_digest_96 : decode cX2_digest 96 = .ok (.invokevirtual 188, 3) := by decide +kernel
theorem dX2_digest_99 : decode cX2_digest 99 = .ok (.i2l, 1) := by decide +kernel
theorem dX2_digest_100 : decode cX2_digest 100 = .ok (.invokestatic 160, 3) := by decide +kernel
theorem dX2_digest_103 : decode cX2_digest 103 = .ok (.lstore_n 1, 1) := by decide +kernel
theorem dX2_digest_104 : decode cX2_digest 104 = .ok (.lload_n 1, 1) := by decide +kernel
theorem dX2_digest_105 : decode cX2_digest 105 = .ok (.aload_n 0, 1) := by decide +kernel
theorem dX2_digest_106 : decode cX2_digest 106 = .ok (.invokevirtual 191, 3) := by decide +kernel
theorem dX2_digest_109 : decode cX2_digest 109 = .ok (.i2l, 1) := by decide +kernel
theorem dX2_digest_110 : decode cX2_digest 110 = .ok (.invokestatic 160, 3) := by decide +kernel
theorem dX2_digest_113 : decode cX2_digest 113 = .ok (.lstore_n 1, 1) := by decide +kernel
theorem dX2_digest_114 : decode cX2_digest 114 = .ok (.lload_n 1, 1) := by decide +kernel
theorem dX2_digest_115 : decode cX2_digest 115 = .ok (.aload_n 0, 1) := by decide +kernel
theorem dX2_digest_116 : decode cX2_digest 116 = .ok (.invokevirtual 194, 3) := by decide +kernel
theorem dX2_digest_119 : decode cX2_digest 119 = .ok (.i2l, 1) := by decide +kernel
theorem dX2_digest_120 : decode cX2_digest 120 = .ok (.invokestatic 160, 3) := by decide +kernel
theorem dX2_digest_123 : decode cX2_digest 123 = .ok (.lstore_n 1, 1) := by decide +kernel
theorem dX2_digest_124 : decode cX2_digest 124 = .ok (.lload_n 1, 1) := by decide +kernel
theorem dX2_digest_125 : decode cX2_digest 125 = .ok (.aload_n 0, 1) := by decide +kernel
theorem dX2_digest_126 : decode cX2_digest 126 = .ok (.invokevirtual 197, 3) := by decide +kernel
theorem dX2_digest_129 : decode cX2_digest 129 = .ok (.i2l, 1) := by decide +kernel
theorem dX2_digest_130 : decode cX2_digest 130 = .ok (.invokestatic 160, 3) := by decide +kernel
theorem dX2_digest_133 : decode cX2_digest 133 = .ok (.lstore_n 1, 1) := by decide +kernel
theorem dX2_digest_134 : decode cX2_digest 134 = .ok (.lload_n 1, 1) := by decide +kernel
theorem dX2_digest_135 : decode cX2_digest 135 = .ok (.aload_n 0, 1) := by decide +kernel
theorem dX2_digest_136 : decode cX2_digest 136 = .ok (.invokevirtual 200, 3) := by decide +kernel
theorem dX2_digest_139 : decode cX2_digest 139 = .ok (.i2l, 1) := by decide +kernel
theorem dX2_digest_140 : decode cX2_digest 140 = .ok (.invokestatic 160, 3) := by decide +kernel
theorem dX2_digest_143 : decode cX2_digest 143 = .ok (.lstore_n 1, 1) := by decide +kernel
theorem dX2_digest_144 : decode cX2_digest 144 = .ok (.lload_n 1, 1) := by decide +kernel
theorem dX2_digest_145 : decode cX2_digest 145 = .ok (.aload_n 0, 1) := by decide +kernel
theorem dX2_digest_146 : decode cX2_digest 146 = .ok (.invokevirtual 203, 3) := by decide +kernel
theorem dX2_digest_149 : decode cX2_digest 149 = .ok (.i2l, 1) := by decide +kernel
theorem dX2_digest_150 : decode cX2_digest 150 = .ok (.invokestatic 160, 3) := by decide +kernel
theorem dX2_digest_153 : decode cX2_digest 153 = .ok (.lstore_n 1, 1) := by decide +kernel
theorem dX2_digest_154 : decode cX2_digest 154 = .ok (.lload_n 1, 1) := by decide +kernel
theorem dX2_digest_155 : decode cX2_digest 155 = .ok (.aload_n 0, 1) := by decide +kernel
theorem dX2_digest_156 : decode cX2_digest 156 = .ok (.invokevirtual 206, 3) := by decide +kernel
theorem dX2_digest_159 : decode cX2_digest 159 = .ok (.i2l, 1) := by decide +kernel
theorem dX2_digest_160 : decode cX2_digest 160 = .ok (.invokestatic 160, 3) := by decide +kernel
theorem dX2_digest_163 : decode cX2_digest 163 = .ok (.lstore_n 1, 1) := by decide +kernel
theorem dX2_digest_164 : decode cX2_digest 164 = .ok (.lload_n 1, 1) := by decide +kernel
theorem dX2_digest_165 : decode cX2_digest 165 = .ok (.aload_n 0, 1) := by decide +kernel
theorem dX2_digest_166 : decode cX2_digest 166 = .ok (.iconst 0, 1) := by decide +kernel
theorem dX2_digest_167 : decode cX2_digest 167 = .ok (.invokevirtual 209, 3) := by decide +kernel
theorem dX2_digest_170 : decode cX2_digest 170 = .ok (.i2l, 1) := by decide +kernel
theorem dX2_digest_171 : decode cX2_digest 171 = .ok (.invokestatic 160, 3) := by decide +kernel
theorem dX2_digest_174 : decode cX2_digest 174 = .ok (.lstore_n 1, 1) := by decide +kernel
theorem dX2_digest_175 : decode cX2_digest 175 = .ok (.aload_n 0, 1) := by decide +kernel
theorem dX2_digest_176 : decode cX2_digest 176 = .ok (.aload_n 0, 1) := by decide +kernel
theorem dX2_digest_177 : decode cX2_digest 177 = .ok (.lload_n 1, 1) := by decide +kernel
theorem dX2_digest_178 : decode cX2_digest 178 = .ok (.invokevirtual 212, 3) := by decide +kernel
theorem dX2_digest_181 : decode cX2_digest 181 = .ok (.invokevirtual 216, 3) := by decide +kernel
theorem dX2_digest_184 : decode cX2_digest 184 = .ok (.lreturn, 1) := by decide +kernel
set_option maxRecDepth 20000 in
theorem ggX2_mixedWithPlaces_X0_size : GoodIn wsX2_mixedWithPlaces wsX0_size := goodIn_r _ [6, 7, 37, 38] (by decide +kernel) (by decide +kernel)
set_option maxRecDepth 20000 in
theorem gX2_mixedWithPlaces_X0_size : GoodIn wsX2_mixedWithPlaces (wsV RX2 44 RX0 yX0_size wsX0_size) := goodIn_app (goodIn_of _ (by decide +kernel)) ggX2_mixedWithPlaces_X0_size
set_option maxRecDepth 20000 in
theorem ggX2_mixedWithPlaces_X0_at : GoodIn wsX2_mixedWithPlaces wsX0_at := goodIn_r _ [11, 12, 37, 38] (by decide +kernel) (by decide +kernel)
set_option maxRecDepth 20000 in
theorem gX2_mixedWithPlaces_X0_at : GoodIn wsX2_mixedWithPlaces (wsV RX2 58 RX0 yX0_at wsX0_at) := goodIn_app (goodIn_of _ (by decide +kernel)) ggX2_mixedWithPlaces_X0_at
set_option maxRecDepth 20000 in
theorem ggX2_mixedWithPlaces_X2_mixed : GoodIn wsX2_mixedWithPlaces wsX2_mixed := goodIn_r _ [16, 17] (by decide +kernel) (by decide +kernel)
set_option maxRecDepth 20000 in
theorem gX2_mixedWithPlaces_X2_mixed : GoodIn wsX2_mixedWithPlaces (va_wsS RX2 160 yX2_mixed wsX2_mixed) := goodIn_app (goodIn_of _ (by decide +kernel)) ggX2_mixedWithPlaces_X2_mixed
set_option maxRecDepth 20000 in
theorem ggX2_mixedWithPlaces_X0_steepAt : GoodIn wsX2_mixedWithPlaces wsX0_steepAt := goodIn_r _ [21, 22, 9, 10, 5, 11, 12, 23, 24, 25, 26, 7, 37, 38] (by decide +kernel) (by decide +kernel)
set_option maxRecDepth 20000 in
theorem gX2_mixedWithPlaces_X0_steepAt : GoodIn wsX2_mixedWithPlaces (wsV RX2 117 RX0 yX0_steepAt wsX0_steepAt) := goodIn_app (goodIn_of _ (by decide +kernel)) ggX2_mixedWithPlaces_X0_steepAt
set_option maxRecDepth 20000 in
theorem ggX2_mixedWithPlaces_X0_tiltOn : GoodIn wsX2_mixedWithPlaces wsX0_tiltOn := goodIn_r _ [30, 7, 23, 24, 25, 5, 26, 22, 9, 10, 11, 12, 37, 38] (by decide +kernel) (by decide +kernel)
set_option maxRecDepth 20000 in
theorem gX2_mixedWithPlaces_X0_tiltOn : GoodIn wsX2_mixedWithPlaces (wsV RX2 124 RX0 yX0_tiltOn wsX0_tiltOn) := goodIn_app (goodIn_of _ (by decide +kernel)) ggX2_mixedWithPlaces_X0_tiltOn
theorem dX2_mixedWithPlaces_0 : decode cX2_mixedWithPlaces 0 = .ok (.lload_n 1, 1) := by decide +kernel
theorem dX2_mixedWithPlaces_1 : decode cX2_mixedWithPlaces 1 = .ok (.lstore_n 3, 1) := by decide +kernel
theorem dX2_mixedWithPlaces_2 : decode cX2_mixedWithPlaces 2 = .ok (.iconst 0, 1) := by decide +kernel
theorem dX2_mixedWithPlaces_3 : decode cX2_mixedWithPlaces 3 = .ok (.istore 5, 2) := by decide +kernel
theorem dX2_mixedWithPlaces_5 : decode cX2_mixedWithPlaces 5 = .ok (.iload 5, 2) := by decide +kernel
theorem dX2_mixedWithPlaces_7 : decode cX2_mixedWithPlaces 7 = .ok (.aload_n 0, 1) := by decide +kernel
theorem dX2_mixedWithPlaces_8 : decode cX2_mixedWithPlaces 8 = .ok (.getfield 10, 3) := by decide +kernel
theorem dX2_mixedWithPlaces_11 : decode cX2_mixedWithPlaces 11 = .ok (.invokevirtual 44, 3) := by decide +kernel
theorem dX2_mixedWithPlaces_14 : decode cX2_mixedWithPlaces 14 = .ok (.if_icmp .ge 61, 3) := by decide +kernel
theorem dX2_mixedWithPlaces_17 : decode cX2_mixedWithPlaces 17 = .ok (.lload_n 3, 1) := by decide +kernel
theorem dX2_mixedWithPlaces_18 : decode cX2_mixedWithPlaces 18 = .ok (.aload_n 0, 1) := by decide +kernel
theorem dX2_mixedWithPlaces_19 : decode cX2_mixedWithPlaces 19 = .ok (.getfield 10, 3) := by decide +kernel
theorem dX2_mixedWithPlaces_22 : decode cX2_mixedWithPlaces 22 = .ok (.iload 5, 2) := by decide +kernel
theorem dX2_mixedWithPlaces_24 : decode cX2_mixedWithPlaces 24 = .ok (.invokevirtual 58, 3) := by decide +kernel
theorem dX2_mixedWithPlaces_27 : decode cX2_mixedWithPlaces 27 = .ok (.i2l, 1) := by decide +kernel
theorem dX2_mixedWithPlaces_28 : decode cX2_mixedWithPlaces 28 = .ok (.invokestatic 160, 3) := by decide +kernel
theorem dX2_mixedWithPlaces_31 : decode cX2_mixedWithPlaces 31 = .ok (.lstore_n 3, 1) := by decide +kernel
theorem dX2_mixedWithPlaces_32 : decode cX2_mixedWithPlaces 32 = .ok (.lload_n 3, 1) := by decide +kernel
theorem dX2_mixedWithPlaces_33 : decode cX2_mixedWithPlaces 33 = .ok (.aload_n 0, 1) := by decide +kernel
theorem dX2_mixedWithPlaces_34 : decode cX2_mixedWithPlaces 34 = .ok (.getfield 10, 3) := by decide +kernel
theorem dX2_mixedWithPlaces_37 : decode cX2_mixedWithPlaces 37 = .ok (.iload 5, 2) := by decide +kernel
theorem dX2_mixedWithPlaces_39 : decode cX2_mixedWithPlaces 39 = .ok (.invokevirtual 117, 3) := by decide +kernel
theorem dX2_mixedWithPlaces_42 : decode cX2_mixedWithPlaces 42 = .ok (.ifCond .eq 7, 3) := by decide +kernel
theorem dX2_mixedWithPlaces_45 : decode cX2_mixedWithPlaces 45 = .ok (.lconst 1, 1) := by decide +kernel
theorem dX2_mixedWithPlaces_46 : decode cX2_mixedWithPlaces 46 = .ok (.goto 4, 3) := by decide +kernel
theorem dX2_mixedWithPlaces_49 : decode cX2_mixedWithPlaces 49 = .ok (.lconst 0, 1) := by decide +kernel
theorem dX2_mixedWithPlaces_50 : decode cX2_mixedWithPlaces 50 = .ok (.invokestatic 160, 3) := by decide +kernel
theorem dX2_mixedWithPlaces_53 : decode cX2_mixedWithPlaces 53 = .ok (.lstore_n 3, 1) := by decide +kernel
theorem dX2_mixedWithPlaces_54 : decode cX2_mixedWithPlaces 54 = .ok (.lload_n 3, 1) := by decide +kernel
theorem dX2_mixedWithPlaces_55 : decode cX2_mixedWithPlaces 55 = .ok (.aload_n 0, 1) := by decide +kernel
theorem dX2_mixedWithPlaces_56 : decode cX2_mixedWithPlaces 56 = .ok (.getfield 10, 3) := by decide +kernel
theorem dX2_mixedWithPlaces_59 : decode cX2_mixedWithPlaces 59 = .ok (.iload 5, 2) := by decide +kernel
theorem dX2_mixedWithPlaces_61 : decode cX2_mixedWithPlaces 61 = .ok (.invokevirtual 124, 3) := by decide +kernel
theorem dX2_mixedWithPlaces_64 : decode cX2_mixedWithPlaces 64 = .ok (.i2l, 1) := by decide +kernel
theorem dX2_mixedWithPlaces_65 : decode cX2_mixedWithPlaces 65 = .ok (.invokestatic 160, 3) := by decide +kernel
theorem dX2_mixedWithPlaces_68 : decode cX2_mixedWithPlaces 68 = .ok (.lstore_n 3, 1) := by decide +kernel
theorem dX2_mixedWithPlaces_69 : decode cX2_mixedWithPlaces 69 = .ok (.iinc 5 1, 3) := by decide +kernel
theorem dX2_mixedWithPlaces_72 : decode cX2_mixedWithPlaces 72 = .ok (.goto (-67), 3) := by decide +kernel
theorem dX2_mixedWithPlaces_75 : decode cX2_mixedWithPlaces 75 = .ok (.lload_n 3, 1) := by decide +kernel
theorem dX2_mixedWithPlaces_76 : decode cX2_mixedWithPlaces 76 = .ok (.lreturn, 1) := by decide +kernel
set_option maxRecDepth 20000 in
theorem ggX2_mixedWithTargets_X2_keptRing : GoodIn wsX2_mixedWithTargets wsX2_keptRing := goodIn_ca (goodIn_r _ [7, 8, 9, 1, 10, 82, 83, 84, 85, 86, 87] (by decide +kernel) (by decide +kernel)) (goodIn_sub (fun _ h => List.mem_cons_of_mem _ (List.mem_append_right _ h)) (by decide +kernel))
set_option maxRecDepth 20000 in
theorem gX2_mixedWithTargets_X2_keptRing : GoodIn wsX2_mixedWithTargets (wsV RX2 85 RX2 yX2_keptRing wsX2_keptRing) := goodIn_app (goodIn_of _ (by decide +kernel)) ggX2_mixedWithTargets_X2_keptRing
set_option maxRecDepth 20000 in
theorem ggX2_mixedWithTargets_X0_differencesFrom : GoodIn wsX2_mixedWithTargets wsX0_differencesFrom := goodIn_r _ [15, 16, 17, 18, 19, 14, 20, 21, 88, 89] (by decide +kernel) (by decide +kernel)
set_option maxRecDepth 20000 in
theorem gX2_mixedWithTargets_X0_differencesFrom : GoodIn wsX2_mixedWithTargets (wsV RX2 127 RX0 yX0_differencesFrom wsX0_differencesFrom) := goodIn_app (goodIn_of _ (by decide +kernel)) ggX2_mixedWithTargets_X0_differencesFrom
set_option maxRecDepth 20000 in
theorem ggX2_mixedWithTargets_X2_mixed : GoodIn wsX2_mixedWithTargets wsX2_mixed := goodIn_r _ [24, 25] (by decide +kernel) (by decide +kernel)
set_option maxRecDepth 20000 in
theorem gX2_mixedWithTargets_X2_mixed : GoodIn wsX2_mixedWithTargets (va_wsS RX2 160 yX2_mixed wsX2_mixed) := goodIn_app (goodIn_of _ (by decide +kernel)) ggX2_mixedWithTargets_X2_mixed
set_option maxRecDepth 20000 in
theorem ggX2_mixedWithTargets_X0_canBecome : GoodIn wsX2_mixedWithTargets wsX0_canBecome := goodIn_r _ [29, 30, 31, 32, 14, 33, 16, 17, 18, 19, 20, 21, 34, 35, 36, 37, 38, 39, 40, 41, 88, 89] (by decide +kernel) (by decide +kernel)
set_option maxRecDepth 20000 in
theorem gX2_mixedWithTargets_X0_canBecome : GoodIn wsX2_mixedWithTargets (wsV RX2 130 RX0 yX0_canBecome wsX0_canBecome) := goodIn_app (goodIn_of _ (by decide +kernel)) ggX2_mixedWithTargets_X0_canBecome
set_option maxRecDepth 20000 in
theorem ggX2_mixedWithTargets_X2_fewestTo : GoodIn wsX2_mixedWithTargets wsX2_fewestTo := goodIn_r _ [45, 2, 46, 26, 27, 28, 14, 29, 30, 31, 32, 33, 16, 17, 18, 19, 20, 21, 34, 35, 36, 37, 38, 39, 40, 41, 47, 48, 49, 50, 51, 52, 53, 54, 55, 56, 57, 58, 59, 60, 61, 62, 63, 64, 65, 66, 67, 68, 69, 70, 71, 72, 73, 74, 75, 76, 77, 78, 79, 80, 81, 82, 83, 84, 85, 86, 87, 88, 89, 90, 91] (by decide +kernel) (by decide +kernel)
set_option maxRecDepth 20000 in
theorem gX2_mixedWithTargets_X2_fewestTo : GoodIn wsX2_mixedWithTargets (wsV RX2 101 RX2 yX2_fewestTo wsX2_fewestTo) := goodIn_app (goodIn_of _ (by decide +kernel)) ggX2_mixedWithTargets_X2_fewestTo
theorem dX2_mixedWithTargets_0 : decode cX2_mixedWithTargets 0 = .ok (.lload_n 1, 1) := by decide +kernel
theorem dX2_mixedWithTargets_1 : decode cX2_mixedWithTargets 1 = .ok (.lstore_n 3, 1) := by decide +kernel
theorem dX2_mixedWithTargets_2 : decode cX2_mixedWithTargets 2 = .ok (.iconst 0, 1) := by decide +kernel
theorem dX2_mixedWithTargets_3 : decode cX2_mixedWithTargets 3 = .ok (.istore 5, 2) := by decide +kernel
theorem dX2_mixedWithTargets_5 : decode cX2_mixedWithTargets 5 = .ok (.iload 5, 2) := by decide +kernel
theorem dX2_mixedWithTargets_7 : decode cX2_mixedWithTargets 7 = .ok (.aload_n 0, 1) := by decide +kernel
theorem dX2_mixedWithTargets_8 : decode cX2_mixedWithTargets 8 = .ok (.getfield 20, 3) := by decide +kernel
theorem dX2_mixedWithTargets_11 : decode cX2_mixedWithTargets 11 = .ok (.if_icmp .ge 66, 3) := by decide +kernel
theorem dX2_mixedWithTargets_14 : decode cX2_mixedWithTargets 14 = .ok (.aload_n 0, 1) := by decide +kernel
theorem dX2_mixedWithTargets_15 : decode cX2_mixedWithTargets 15 = .ok (.iload 5, 2) := by decide +kernel
theorem dX2_mixedWithTargets_17 : decode cX2_mixedWithTargets 17 = .ok (.invokevirtual 85, 3) := by decide +kernel
theorem dX2_mixedWithTargets_20 : decode cX2_mixedWithTargets 20 = .ok (.astore 6, 2) := by decide +kernel
theorem dX2_mixedWithTargets_22 : decode cX2_mixedWithTargets 22 = .ok (.lload_n 3, 1) := by decide +kernel
theorem dX2_mixedWithTargets_23 : decode cX2_mixedWithTargets 23 = .ok (.aload_n 0, 1) := by decide +kernel
theorem dX2_mixedWithTargets_24 : decode cX2_mixedWithTargets 24 = .ok (.getfield 10, 3) := by decide +kernel
theorem dX2_mixedWithTargets_27 : decode cX2_mixedWithTargets 27 = .ok (.aload 6, 2) := by decide +kernel
theorem dX2_mixedWithTargets_29 : decode cX2_mixedWithTargets 29 = .ok (.invokevirtual 127, 3) := by decide +kernel
theorem dX2_mixedWithTargets_32 : decode cX2_mixedWithTargets 32 = .ok (.i2l, 1) := by decide +kernel
theorem dX2_mixedWithTargets_33 : decode cX2_mixedWithTargets 33 = .ok (.invokestatic 160, 3) := by decide +kernel
theorem dX2_mixedWithTargets_36 : decode cX2_mixedWithTargets 36 = .ok (.lstore_n 3, 1) := by decide +kernel
theorem dX2_mixedWithTargets_37 : decode cX2_mixedWithTargets 37 = .ok (.lload_n 3, 1) := by decide +kernel
theorem dX2_mixedWithTargets_38 : decode cX2_mixedWithTargets 38 = .ok (.aload_n 0, 1) := by decide +kernel
theorem dX2_mixedWithTargets_39 : decode cX2_mixedWithTargets 39 = .ok (.getfield 10, 3) := by decide +kernel
theorem dX2_mixedWithTargets_42 : decode cX2_mixedWithTargets 42 = .ok (.aload 6, 2) := by decide +kernel
theorem dX2_mixedWithTargets_44 : decode cX2_mixedWithTargets 44 = .ok (.invokevirtual 130, 3) := by decide +kernel
theorem dX2_mixedWithTargets_47 : decode cX2_mixedWithTargets 47 = .ok (.ifCond .eq 7, 3) := by decide +kernel
theorem dX2_mixedWithTargets_50 : decode cX2_mixedWithTargets 50 = .ok (.lconst 1, 1) := by decide +kernel
theorem dX2_mixedWithTargets_51 : decode cX2_mixedWithTargets 51 = .ok (.goto 4, 3) := by decide +kernel
theorem dX2_mixedWithTargets_54 : decode cX2_mixedWithTargets 54 = .ok (.lconst 0, 1) := by decide +kernel
theorem dX2_mixedWithTargets_55 : decode cX2_mixedWithTargets 55 = .ok (.invokestatic 160, 3) := by decide +kernel
theorem dX2_mixedWithTargets_58 : decode cX2_mixedWithTargets 58 = .ok (.lstore_n 3, 1) := by decide +kernel
theorem dX2_mixedWithTargets_59 : decode cX2_mixedWithTargets 59 = .ok (.lload_n 3, 1) := by decide +kernel
theorem dX2_mixedWithTargets_60 : decode cX2_mixedWithTargets 60 = .ok (.aload_n 0, 1) := by decide +kernel
theorem dX2_mixedWithTargets_61 : decode cX2_mixedWithTargets 61 = .ok (.aload 6, 2) := by decide +kernel
theorem dX2_mixedWithTargets_63 : decode cX2_mixedWithTargets 63 = .ok (.invokevirtual 101, 3) := by decide +kernel
theorem dX2_mixedWithTargets_66 : decode cX2_mixedWithTargets 66 = .ok (.i2l, 1) := by decide +kernel
theorem dX2_mixedWithTargets_67 : decode cX2_mixedWithTargets 67 = .ok (.invokestatic 160, 3) := by decide +kernel
theorem dX2_mixedWithTargets_70 : decode cX2_mixedWithTargets 70 = .ok (.lstore_n 3, 1) := by decide +kernel
theorem dX2_mixedWithTargets_71 : decode cX2_mixedWithTargets 71 = .ok (.iinc 5 1, 3) := by decide +kernel
theorem dX2_mixedWithTargets_74 : decode cX2_mixedWithTargets 74 = .ok (.goto (-69), 3) := by decide +kernel
theorem dX2_mixedWithTargets_77 : decode cX2_mixedWithTargets 77 = .ok (.lload_n 3, 1) := by decide +kernel
theorem dX2_mixedWithTargets_78 : decode cX2_mixedWithTargets 78 = .ok (.lreturn, 1) := by decide +kernel
theorem dX2_mixed_0 : decode cX2_mixed 0 = .ok (.lload_n 0, 1) := by decide +kernel
theorem dX2_mixed_1 : decode cX2_mixed 1 = .ok (.ldc2_w 219, 3) := by decide +kernel
theorem dX2_mixed_4 : decode cX2_mixed 4 = .ok (.lmul, 1) := by decide +kernel
theorem dX2_mixed_5 : decode cX2_mixed 5 = .ok (.lload_n 2, 1) := by decide +kernel
theorem dX2_mixed_6 : decode cX2_mixed 6 = .ok (.ladd, 1) := by decide +kernel
theorem dX2_mixed_7 : decode cX2_mixed 7 = .ok (.lreturn, 1) := by decide +kernel
set_option maxRecDepth 20000 in
theorem ggX2_requirePlace_X0_size : GoodIn wsX2_requirePlace wsX0_size := goodIn_r _ [8, 9, 16, 17] (by decide +kernel) (by decide +kernel)
set_option maxRecDepth 20000 in
theorem gX2_requirePlace_X0_size : GoodIn wsX2_requirePlace (wsV RX2 44 RX0 yX0_size wsX0_size) := goodIn_app (goodIn_of _ (by decide +kernel)) ggX2_requirePlace_X0_size
theorem dX2_requirePlace_0 : decode cX2_requirePlace 0 = .ok (.iload_n 1, 1) := by decide +kernel
theorem dX2_requirePlace_1 : decode cX2_requirePlace 1 = .ok (.ifCond .lt 14, 3) := by decide +kernel
theorem dX2_requirePlace_4 : decode cX2_requirePlace 4 = .ok (.iload_n 1, 1) := by decide +kernel
theorem dX2_requirePlace_5 : decode cX2_requirePlace 5 = .ok (.aload_n 0, 1) := by decide +kernel
theorem dX2_requirePlace_6 : decode cX2_requirePlace 6 = .ok (.getfield 10, 3) := by decide +kernel
theorem dX2_requirePlace_9 : decode cX2_requirePlace 9 = .ok (.invokevirtual 44, 3) := by decide +kernel
theorem dX2_requirePlace_12 : decode cX2_requirePlace 12 = .ok (.if_icmp .lt 13, 3) := by decide +kernel
theorem dX2_requirePlace_15 : decode cX2_requirePlace 15 = .ok (.new 221, 3) := by decide +kernel
theorem dX2_requirePlace_18 : decode cX2_requirePlace 18 = .ok (.dup, 1) := by decide +kernel
theorem dX2_requirePlace_19 : decode cX2_requirePlace 19 = .ok (.ldc 223, 2) := by decide +kernel
theorem dX2_requirePlace_21 : decode cX2_requirePlace 21 = .ok (.invokespecial 225, 3) := by decide +kernel
theorem dX2_requirePlace_24 : decode cX2_requirePlace 24 = .ok (.athrow, 1) := by decide +kernel
theorem dX2_requirePlace_25 : decode cX2_requirePlace 25 = .ok (.return_, 1) := by decide +kernel
theorem dX2_requireNumber_0 : decode cX2_requireNumber 0 = .ok (.iload_n 1, 1) := by decide +kernel
theorem dX2_requireNumber_1 : decode cX2_requireNumber 1 = .ok (.sipush (-999), 3) := by decide +kernel
theorem dX2_requireNumber_4 : decode cX2_requireNumber 4 = .ok (.if_icmp .lt 10, 3) := by decide +kernel
theorem dX2_requireNumber_7 : decode cX2_requireNumber 7 = .ok (.iload_n 1, 1) := by decide +kernel
theorem dX2_requireNumber_8 : decode cX2_requireNumber 8 = .ok (.sipush 999, 3) := by decide +kernel
theorem dX2_requireNumber_11 : decode cX2_requireNumber 11 = .ok (.if_icmp .le 13, 3) := by decide +kernel
theorem dX2_requireNumber_14 : decode cX2_requireNumber 14 = .ok (.new 37, 3) := by decide +kernel
theorem dX2_requireNumber_17 : decode cX2_requireNumber 17 = .ok (.dup, 1) := by decide +kernel
theorem dX2_requireNumber_18 : decode cX2_requireNumber 18 = .ok (.ldc 226, 2) := by decide +kernel
theorem dX2_requireNumber_20 : decode cX2_requireNumber 20 = .ok (.invokespecial 41, 3) := by decide +kernel
theorem dX2_requireNumber_23 : decode cX2_requireNumber 23 = .ok (.athrow, 1) := by decide +kernel
theorem dX2_requireNumber_24 : decode cX2_requireNumber 24 = .ok (.return_, 1) := by decide +kernel
theorem dX2_requireTimes_0 : decode cX2_requireTimes 0 = .ok (.iload_n 1, 1) := by decide +kernel
theorem dX2_requireTimes_1 : decode cX2_requireTimes 1 = .ok (.bipush (-50), 2) := by decide +kernel
theorem dX2_requireTimes_3 : decode cX2_requireTimes 3 = .ok (.if_icmp .lt 9, 3) := by decide +kernel
theorem dX2_requireTimes_6 : decode cX2_requireTimes 6 = .ok (.iload_n 1, 1) := by decide +kernel
theorem dX2_requireTimes_7 : decode cX2_requireTimes 7 = .ok (.bipush 50, 2) := by decide +kernel
theorem dX2_requireTimes_9 : decode cX2_requireTimes 9 = .ok (.if_icmp .le 13, 3) := by decide +kernel
theorem dX2_requireTimes_12 : decode cX2_requireTimes 12 = .ok (.new 37, 3) := by decide +kernel
theorem dX2_requireTimes_15 : decode cX2_requireTimes 15 = .ok (.dup, 1) := by decide +kernel
theorem dX2_requireTimes_16 : decode cX2_requireTimes 16 = .ok (.ldc 228, 2) := by decide +kernel
theorem dX2_requireTimes_18 : decode cX2_requireTimes 18 = .ok (.invokespecial 41, 3) := by decide +kernel
theorem dX2_requireTimes_21 : decode cX2_requireTimes 21 = .ok (.athrow, 1) := by decide +kernel
theorem dX2_requireTimes_22 : decode cX2_requireTimes 22 = .ok (.return_, 1) := by decide +kernel
set_option maxRecDepth 20000 in
theorem ggX2_requireWayTo_X0_canBecome : GoodIn wsX2_requireWayTo wsX0_canBecome := goodIn_r _ [8, 9, 10, 11, 7, 12, 13, 14, 15, 16, 17, 18, 19, 20, 21, 22, 23, 24, 25, 26, 33, 34] (by decide +kernel) (by decide +kernel)
set_option maxRecDepth 20000 in
theorem gX2_requireWayTo_X0_canBecome : GoodIn wsX2_requireWayTo (wsV RX2 130 RX0 yX0_canBecome wsX0_canBecome) := goodIn_app (goodIn_of _ (by decide +kernel)) ggX2_requireWayTo_X0_canBecome
theorem dX2_requireWayTo_0 : decode cX2_requireWayTo 0 = .ok (.aload_n 0, 1) := by decide +kernel
theorem dX2_requireWayTo_1 : decode cX2_requireWayTo 1 = .ok (.getfield 10, 3) := by decide +kernel
theorem dX2_requireWayTo_4 : decode cX2_requireWayTo 4 = .ok (.aload_n 1, 1) := by decide +kernel
theorem dX2_requireWayTo_5 : decode cX2_requireWayTo 5 = .ok (.invokevirtual 130, 3) := by decide +kernel
theorem dX2_requireWayTo_8 : decode cX2_requireWayTo 8 = .ok (.ifCond .ne 13, 3) := by decide +kernel
theorem dX2_requireWayTo_11 : decode cX2_requireWayTo 11 = .ok (.new 80, 3) := by decide +kernel
theorem dX2_requireWayTo_14 : decode cX2_requireWayTo 14 = .ok (.dup, 1) := by decide +kernel
theorem dX2_requireWayTo_15 : decode cX2_requireWayTo 15 = .ok (.ldc 230, 2) := by decide +kernel
theorem dX2_requireWayTo_17 : decode cX2_requireWayTo 17 = .ok (.invokespecial 84, 3) := by decide +kernel
theorem dX2_requireWayTo_20 : decode cX2_requireWayTo 20 = .ok (.athrow, 1) := by decide +kernel
theorem dX2_requireWayTo_21 : decode cX2_requireWayTo 21 = .ok (.return_, 1) := by decide +kernel
theorem dX2_keptRing_0 : decode cX2_keptRing 0 = .ok (.iload_n 1, 1) := by decide +kernel
theorem dX2_keptRing_1 : decode cX2_keptRing 1 = .ok (.ifCond .lt 20, 3) := by decide +kernel
theorem dX2_keptRing_4 : decode cX2_keptRing 4 = .ok (.iload_n 1, 1) := by decide +kernel
theorem dX2_keptRing_5 : decode cX2_keptRing 5 = .ok (.aload_n 0, 1) := by decide +kernel
theorem dX2_keptRing_6 : decode cX2_keptRing 6 = .ok (.getfield 20, 3) := by decide +kernel
theorem dX2_keptRing_9 : decode cX2_keptRing 9 = .ok (.if_icmp .ge 12, 3) := by decide +kernel
theorem dX2_keptRing_12 : decode cX2_keptRing 12 = .ok (.iload_n 1, 1) := by decide +kernel
theorem dX2_keptRing_13 : decode cX2_keptRing 13 = .ok (.aload_n 0, 1) := by decide +kernel
theorem dX2_keptRing_14 : decode cX2_keptRing 14 = .ok (.getfield 16, 3) := by decide +kernel
theorem dX2_keptRing_17 : decode cX2_keptRing 17 = .ok (.arraylength, 1) := by decide +kernel
theorem dX2_keptRing_18 : decode cX2_keptRing 18 = .ok (.if_icmp .lt 13, 3) := by decide +kernel
theorem dX2_keptRing_21 : decode cX2_keptRing 21 = .ok (.new 221, 3) := by decide +kernel
theorem dX2_keptRing_24 : decode cX2_keptRing 24 = .ok (.dup, 1) := by decide +kernel
theorem dX2_keptRing_25 : decode cX2_keptRing 25 = .ok (.ldc 232, 2) := by decide +kernel
theorem dX2_keptRing_27 : decode cX2_keptRing 27 = .ok (.invokespecial 225, 3) := by decide +kernel
theorem dX2_keptRing_30 : decode cX2_keptRing 30 = .ok (.athrow, 1) := by decide +kernel
theorem dX2_keptRing_31 : decode cX2_keptRing 31 = .ok (.aload_n 0, 1) := by decide +kernel
theorem dX2_keptRing_32 : decode cX2_keptRing 32 = .ok (.getfield 16, 3) := by decide +kernel
theorem dX2_keptRing_35 : decode cX2_keptRing 35 = .ok (.iload_n 1, 1) := by decide +kernel
theorem dX2_keptRing_36 : decode cX2_keptRing 36 = .ok (.aaload, 1) := by decide +kernel
theorem dX2_keptRing_37 : decode cX2_keptRing 37 = .ok (.astore_n 2, 1) := by decide +kernel
theorem dX2_keptRing_38 : decode cX2_keptRing 38 = .ok (.aload_n 2, 1) := by decide +kernel
theorem dX2_keptRing_39 : decode cX2_keptRing 39 = .ok (.ifnonnull 13, 3) := by decide +kernel
theorem dX2_keptRing_42 : decode cX2_keptRing 42 = .ok (.new 221, 3) := by decide +kernel
theorem dX2_keptRing_45 : decode cX2_keptRing 45 = .ok (.dup, 1) := by decide +kernel
theorem dX2_keptRing_46 : decode cX2_keptRing 46 = .ok (.ldc 232, 2) := by decide +kernel
theorem dX2_keptRing_48 : decode cX2_keptRing 48 = .ok (.invokespecial 225, 3) := by decide +kernel
theorem dX2_keptRing_51 : decode cX2_keptRing 51 = .ok (.athrow, 1) := by decide +kernel
theorem dX2_keptRing_52 : decode cX2_keptRing 52 = .ok (.aload_n 2, 1) := by decide +kernel
theorem dX2_keptRing_53 : decode cX2_keptRing 53 = .ok (.areturn, 1) := by decide +kernel
set_option maxRecDepth 20000 in
theorem ggX2_fewestTo_X0_canBecome : GoodIn wsX2_fewestTo wsX0_canBecome := goodIn_r _ [7, 8, 9, 10, 6, 11, 12, 13, 14, 15, 16, 17, 18, 19, 20, 21, 22, 23, 24, 25, 67, 68] (by decide +kernel) (by decide +kernel)
set_option maxRecDepth 20000 in
theorem gX2_fewestTo_X0_canBecome : GoodIn wsX2_fewestTo (wsV RX2 130 RX0 yX0_canBecome wsX0_canBecome) := goodIn_app (goodIn_of _ (by decide +kernel)) ggX2_fewestTo_X0_canBecome
set_option maxRecDepth 20000 in
theorem ggX2_fewestTo_X1_find : GoodIn wsX2_fewestTo wsX1_find := goodIn_r _ [30, 31, 32, 33, 34, 35, 6, 36, 12, 37, 38, 39, 29, 40, 41, 14, 15, 16, 17, 69, 70, 67, 68] (by decide +kernel) (by decide +kernel)
set_option maxRecDepth 20000 in
theorem gX2_fewestTo_X1_find : GoodIn wsX2_fewestTo (wsV RX2 134 RX1 yX1_find wsX1_find) := goodIn_app (goodIn_of _ (by decide +kernel)) ggX2_fewestTo_X1_find
set_option maxRecDepth 20000 in
theorem ggX2_fewestTo_X1_fewest : GoodIn wsX2_fewestTo wsX1_fewest := goodIn_r _ [45, 31, 46, 47, 48, 49, 50, 51, 52, 29, 53, 32, 54, 55, 56, 57, 58, 59, 60, 69, 70] (by decide +kernel) (by decide +kernel)
set_option maxRecDepth 20000 in
theorem gX2_fewestTo_X1_fewest : GoodIn wsX2_fewestTo (wsV RX2 234 RX1 yX1_fewest wsX1_fewest) := goodIn_app (goodIn_of _ (by decide +kernel)) ggX2_fewestTo_X1_fewest
theorem dX2_fewestTo_0 : decode cX2_fewestTo 0 = .ok (.aload_n 0, 1) := by decide +kernel
theorem dX2_fewestTo_1 : decode cX2_fewestTo 1 = .ok (.getfield 10, 3) := by decide +kernel
theorem dX2_fewestTo_4 : decode cX2_fewestTo 4 = .ok (.aload_n 1, 1) := by decide +kernel
theorem dX2_fewestTo_5 : decode cX2_fewestTo 5 = .ok (.invokevirtual 130, 3) := by decide +kernel
theorem dX2_fewestTo_8 : decode cX2_fewestTo 8 = .ok (.ifCond .ne 5, 3) := by decide +kernel
theorem dX2_fewestTo_11 : decode cX2_fewestTo 11 = .ok (.iconst (-1), 1) := by decide +kernel
theorem dX2_fewestTo_12 : decode cX2_fewestTo 12 = .ok (.ireturn, 1) := by decide +kernel
theorem dX2_fewestTo_13 : decode cX2_fewestTo 13 = .ok (.aload_n 0, 1) := by decide +kernel
theorem dX2_fewestTo_14 : decode cX2_fewestTo 14 = .ok (.getfield 33, 3) := by decide +kernel
theorem dX2_fewestTo_17 : decode cX2_fewestTo 17 = .ok (.aload_n 0, 1) := by decide +kernel
theorem dX2_fewestTo_18 : decode cX2_fewestTo 18 = .ok (.getfield 10, 3) := by decide +kernel
theorem dX2_fewestTo_21 : decode cX2_fewestTo 21 = .ok (.aload_n 1, 1) := by decide +kernel
theorem dX2_fewestTo_22 : decode cX2_fewestTo 22 = .ok (.invokevirtual 134, 3) := by decide +kernel
theorem dX2_fewestTo_25 : decode cX2_fewestTo 25 = .ok (.aload_n 0, 1) := by decide +kernel
theorem dX2_fewestTo_26 : decode cX2_fewestTo 26 = .ok (.getfield 33, 3) := by decide +kernel
theorem dX2_fewestTo_29 : decode cX2_fewestTo 29 = .ok (.invokevirtual 234, 3) := by decide +kernel
theorem dX2_fewestTo_32 : decode cX2_fewestTo 32 = .ok (.ireturn, 1) := by decide +kernel
set_option maxRecDepth 20000 in
theorem ggX2_tryToRest_X0_copyFrom : GoodIn wsX2_tryToRest wsX0_copyFrom := goodIn_r _ [7, 8, 9, 10, 11, 12, 6, 13, 14, 15, 16, 17, 49, 50] (by decide +kernel) (by decide +kernel)
set_option maxRecDepth 20000 in
theorem gX2_tryToRest_X0_copyFrom : GoodIn wsX2_tryToRest (wsV RX2 89 RX0 yX0_copyFrom wsX0_copyFrom) := goodIn_app (goodIn_of _ (by decide +kernel)) ggX2_tryToRest_X0_copyFrom
set_option maxRecDepth 20000 in
theorem ggX2_tryToRest_X0_settleBy : GoodIn wsX2_tryToRest wsX0_settleBy := goodIn_r _ [21, 22, 23, 24, 6, 25, 8, 26, 27, 28, 29, 10, 11, 12, 13, 9, 30, 31, 32, 33, 34, 35, 36, 37, 38, 39, 40, 41, 14, 15, 16, 17, 49, 50] (by decide +kernel) (by decide +kernel)
set_option maxRecDepth 20000 in
theorem gX2_tryToRest_X0_settleBy : GoodIn wsX2_tryToRest (wsV RX2 95 RX0 yX0_settleBy wsX0_settleBy) := goodIn_app (goodIn_of _ (by decide +kernel)) ggX2_tryToRest_X0_settleBy
set_option maxRecDepth 20000 in
theorem ggX2_tryToRest_X0_firstSteep : GoodIn wsX2_tryToRest wsX0_firstSteep := goodIn_r _ [25, 8, 26, 27, 28, 6, 29, 10, 11, 12, 13, 9, 30, 31, 32, 33, 49, 50] (by decide +kernel) (by decide +kernel)
set_option maxRecDepth 20000 in
theorem gX2_tryToRest_X0_firstSteep : GoodIn wsX2_tryToRest (wsV RX2 121 RX0 yX0_firstSteep wsX0_firstSteep) := goodIn_app (goodIn_of _ (by decide +kernel)) ggX2_tryToRest_X0_firstSteep
theorem dX2_tryToRest_0 : decode cX2_tryToRest 0 = .ok (.aload_n 0, 1) := by decide +kernel
theorem dX2_tryToRest_1 : decode cX2_tryToRest 1 = .ok (.getfield 27, 3) := by decide +kernel
theorem dX2_tryToRest_4 : decode cX2_tryToRest 4 = .ok (.aload_n 0, 1) := by decide +kernel
theorem dX2_tryToRest_5 : decode cX2_tryToRest 5 = .ok (.getfield 10, 3) := by decide +kernel
theorem dX2_tryToRest_8 : decode cX2_tryToRest 8 = .ok (.invokevirtual 89, 3) := by decide +kernel
theorem dX2_tryToRest_11 : decode cX2_tryToRest 11 = .ok (.aload_n 0, 1) := by decide +kernel
theorem dX2_tryToRest_12 : decode cX2_tryToRest 12 = .ok (.getfield 27, 3) := by decide +kernel
theorem dX2_tryToRest_15 : decode cX2_tryToRest 15 = .ok (.sipush 300, 3) := by decide +kernel
theorem dX2_tryToRest_18 : decode cX2_tryToRest 18 = .ok (.invokevirtual 95, 3) := by decide +kernel
theorem dX2_tryToRest_21 : decode cX2_tryToRest 21 = .ok (.istore_n 1, 1) := by decide +kernel
theorem dX2_tryToRest_22 : decode cX2_tryToRest 22 = .ok (.aload_n 0, 1) := by decide +kernel
theorem dX2_tryToRest_23 : decode cX2_tryToRest 23 = .ok (.getfield 27, 3) := by decide +kernel
theorem dX2_tryToRest_26 : decode cX2_tryToRest 26 = .ok (.invokevirtual 121, 3) := by decide +kernel
theorem dX2_tryToRest_29 : decode cX2_tryToRest 29 = .ok (.ifCond .ge 7, 3) := by decide +kernel
theorem dX2_tryToRest_32 : decode cX2_tryToRest 32 = .ok (.iload_n 1, 1) := by decide +kernel
theorem dX2_tryToRest_33 : decode cX2_tryToRest 33 = .ok (.goto 4, 3) := by decide +kernel
theorem dX2_tryToRest_36 : decode cX2_tryToRest 36 = .ok (.iconst (-1), 1) := by decide +kernel
theorem dX2_tryToRest_37 : decode cX2_tryToRest 37 = .ok (.ireturn, 1) := by decide +kernel
set_option maxRecDepth 20000 in
theorem ggX2_spanAfter_X0_copyFrom : GoodIn wsX2_spanAfter wsX0_copyFrom := goodIn_r _ [7, 8, 9, 10, 11, 12, 6, 13, 14, 15, 16, 17, 48, 49] (by decide +kernel) (by decide +kernel)
set_option maxRecDepth 20000 in
theorem gX2_spanAfter_X0_copyFrom : GoodIn wsX2_spanAfter (wsV RX2 89 RX0 yX0_copyFrom wsX0_copyFrom) := goodIn_app (goodIn_of _ (by decide +kernel)) ggX2_spanAfter_X0_copyFrom
set_option maxRecDepth 20000 in
theorem ggX2_spanAfter_X0_tipBy : GoodIn wsX2_spanAfter wsX0_tipBy := goodIn_r _ [21, 22, 23, 24, 6, 25, 10, 11, 12, 13, 9, 14, 15, 16, 17, 26, 27, 28, 29, 8, 48, 49] (by decide +kernel) (by decide +kernel)
set_option maxRecDepth 20000 in
theorem gX2_spanAfter_X0_tipBy : GoodIn wsX2_spanAfter (wsV RX2 69 RX0 yX0_tipBy wsX0_tipBy) := goodIn_app (goodIn_of _ (by decide +kernel)) ggX2_spanAfter_X0_tipBy
set_option maxRecDepth 20000 in
theorem ggX2_spanAfter_X0_span : GoodIn wsX2_spanAfter wsX0_span := goodIn_r _ [33, 8, 34, 35, 36, 37, 10, 11, 12, 6, 13, 9, 38, 39, 40, 41, 48, 49] (by decide +kernel) (by decide +kernel)
set_option maxRecDepth 20000 in
theorem gX2_spanAfter_X0_span : GoodIn wsX2_spanAfter (wsV RX2 111 RX0 yX0_span wsX0_span) := goodIn_app (goodIn_of _ (by decide +kernel)) ggX2_spanAfter_X0_span
theorem dX2_spanAfter_0 : decode cX2_spanAfter 0 = .ok (.aload_n 0, 1) := by decide +kernel
theorem dX2_spanAfter_1 : decode cX2_spanAfter 1 = .ok (.getfield 27, 3) := by decide +kernel
theorem dX2_spanAfter_4 : decode cX2_spanAfter 4 = .ok (.aload_n 0, 1) := by decide +kernel
theorem dX2_spanAfter_5 : decode cX2_spanAfter 5 = .ok (.getfield 10, 3) := by decide +kernel
theorem dX2_spanAfter_8 : decode cX2_spanAfter 8 = .ok (.invokevirtual 89, 3) := by decide +kernel
theorem dX2_spanAfter_11 : decode cX2_spanAfter 11 = .ok (.aload_n 0, 1) := by decide +kernel
theorem dX2_spanAfter_12 : decode cX2_spanAfter 12 = .ok (.getfield 27, 3) := by decide +kernel
theorem dX2_spanAfter_15 : decode cX2_spanAfter 15 = .ok (.iload_n 1, 1) := by decide +kernel
theorem dX2_spanAfter_16 : decode cX2_spanAfter 16 = .ok (.iload_n 2, 1) := by decide +kernel
theorem dX2_spanAfter_17 : decode cX2_spanAfter 17 = .ok (.invokevirtual 69, 3) := by decide +kernel
theorem dX2_spanAfter_20 : decode cX2_spanAfter 20 = .ok (.aload_n 0, 1) := by decide +kernel
theorem dX2_spanAfter_21 : decode cX2_spanAfter 21 = .ok (.getfield 27, 3) := by decide +kernel
theorem dX2_spanAfter_24 : decode cX2_spanAfter 24 = .ok (.invokevirtual 111, 3) := by decide +kernel
theorem dX2_spanAfter_27 : decode cX2_spanAfter 27 = .ok (.ireturn, 1) := by decide +kernel
set_option maxRecDepth 20000 in
theorem ggX2_firstPlaceFor_X0_size : GoodIn wsX2_firstPlaceFor wsX0_size := goodIn_r _ [7, 8, 45, 46] (by decide +kernel) (by decide +kernel)
set_option maxRecDepth 20000 in
theorem gX2_firstPlaceFor_X0_size : GoodIn wsX2_firstPlaceFor (wsV RX2 44 RX0 yX0_size wsX0_size) := goodIn_app (goodIn_of _ (by decide +kernel)) ggX2_firstPlaceFor_X0_size
set_option maxRecDepth 20000 in
theorem ggX2_firstPlaceFor_X0_copyFrom : GoodIn wsX2_firstPlaceFor wsX0_copyFrom := goodIn_r _ [12, 8, 13, 14, 15, 16, 6, 17, 18, 19, 20, 21, 45, 46] (by decide +kernel) (by decide +kernel)
set_option maxRecDepth 20000 in
theorem gX2_firstPlaceFor_X0_copyFrom : GoodIn wsX2_firstPlaceFor (wsV RX2 89 RX0 yX0_copyFrom wsX0_copyFrom) := goodIn_app (goodIn_of _ (by decide +kernel)) ggX2_firstPlaceFor_X0_copyFrom
set_option maxRecDepth 20000 in
theorem ggX2_firstPlaceFor_X0_write : GoodIn wsX2_firstPlaceFor wsX0_write := goodIn_r _ [21, 13, 45, 46] (by decide +kernel) (by decide +kernel)
set_option maxRecDepth 20000 in
theorem gX2_firstPlaceFor_X0_write : GoodIn wsX2_firstPlaceFor (wsV RX2 62 RX0 yX0_write wsX0_write) := goodIn_app (goodIn_of _ (by decide +kernel)) ggX2_firstPlaceFor_X0_write
set_option maxRecDepth 20000 in
theorem ggX2_firstPlaceFor_X0_canBecome : GoodIn wsX2_firstPlaceFor wsX0_canBecome := goodIn_r _ [26, 27, 28, 29, 6, 30, 8, 14, 15, 16, 17, 13, 31, 32, 33, 34, 35, 36, 37, 38, 45, 46] (by decide +kernel) (by decide +kernel)
set_option maxRecDepth 20000 in
theorem gX2_firstPlaceFor_X0_canBecome : GoodIn wsX2_firstPlaceFor (wsV RX2 130 RX0 yX0_canBecome wsX0_canBecome) := goodIn_app (goodIn_of _ (by decide +kernel)) ggX2_firstPlaceFor_X0_canBecome
theorem dX2_firstPlaceFor_0 : decode cX2_firstPlaceFor 0 = .ok (.iconst 0, 1) := by decide +kernel
theorem dX2_firstPlaceFor_1 : decode cX2_firstPlaceFor 1 = .ok (.istore_n 3, 1) := by decide +kernel
theorem dX2_firstPlaceFor_2 : decode cX2_firstPlaceFor 2 = .ok (.iload_n 3, 1) := by decide +kernel
theorem dX2_firstPlaceFor_3 : decode cX2_firstPlaceFor 3 = .ok (.aload_n 0, 1) := by decide +kernel
theorem dX2_firstPlaceFor_4 : decode cX2_firstPlaceFor 4 = .ok (.getfield 10, 3) := by decide +kernel
theorem dX2_firstPlaceFor_7 : decode cX2_firstPlaceFor 7 = .ok (.invokevirtual 44, 3) := by decide +kernel
theorem dX2_firstPlaceFor_10 : decode cX2_firstPlaceFor 10 = .ok (.if_icmp .ge 42, 3) := by decide +kernel
theorem dX2_firstPlaceFor_13 : decode cX2_firstPlaceFor 13 = .ok (.aload_n 0, 1) := by decide +kernel
theorem dX2_firstPlaceFor_14 : decode cX2_firstPlaceFor 14 = .ok (.getfield 27, 3) := by decide +kernel
theorem dX2_firstPlaceFor_17 : decode cX2_firstPlaceFor 17 = .ok (.aload_n 0, 1) := by decide +kernel
theorem dX2_firstPlaceFor_18 : decode cX2_firstPlaceFor 18 = .ok (.getfield 10, 3) := by decide +kernel
theorem dX2_firstPlaceFor_21 : decode cX2_firstPlaceFor 21 = .ok (.invokevirtual 89, 3) := by decide +kernel
theorem dX2_firstPlaceFor_24 : decode cX2_firstPlaceFor 24 = .ok (.aload_n 0, 1) := by decide +kernel
theorem dX2_firstPlaceFor_25 : decode cX2_firstPlaceFor 25 = .ok (.getfield 27, 3) := by decide +kernel
theorem dX2_firstPlaceFor_28 : decode cX2_firstPlaceFor 28 = .ok (.iload_n 3, 1) := by decide +kernel
theorem dX2_firstPlaceFor_29 : decode cX2_firstPlaceFor 29 = .ok (.iload_n 1, 1) := by decide +kernel
theorem dX2_firstPlaceFor_30 : decode cX2_firstPlaceFor 30 = .ok (.invokevirtual 62, 3) := by decide +kernel
theorem dX2_firstPlaceFor_33 : decode cX2_firstPlaceFor 33 = .ok (.aload_n 0, 1) := by decide +kernel
theorem dX2_firstPlaceFor_34 : decode cX2_firstPlaceFor 34 = .ok (.getfield 27, 3) := by decide +kernel
theorem dX2_firstPlaceFor_37 : decode cX2_firstPlaceFor 37 = .ok (.aload_n 2, 1) := by decide +kernel
theorem dX2_firstPlaceFor_38 : decode cX2_firstPlaceFor 38 = .ok (.invokevirtual 130, 3) := by decide +kernel
theorem dX2_firstPlaceFor_41 : decode cX2_firstPlaceFor 41 = .ok (.ifCond .eq 5, 3) := by decide +kernel
theorem dX2_firstPlaceFor_44 : decode cX2_firstPlaceFor 44 = .ok (.iload_n 3, 1) := by decide +kernel
theorem dX2_firstPlaceFor_45 : decode cX2_firstPlaceFor 45 = .ok (.ireturn, 1) := by decide +kernel
theorem dX2_firstPlaceFor_46 : decode cX2_firstPlaceFor 46 = .ok (.iinc 3 1, 3) := by decide +kernel
theorem dX2_firstPlaceFor_49 : decode cX2_firstPlaceFor 49 = .ok (.goto (-47), 3) := by decide +kernel
theorem dX2_firstPlaceFor_52 : decode cX2_firstPlaceFor 52 = .ok (.iconst (-1), 1) := by decide +kernel
theorem dX2_firstPlaceFor_53 : decode cX2_firstPlaceFor 53 = .ok (.ireturn, 1) := by decide +kernel
theorem dX3_init_0 : decode cX3_init 0 = .ok (.aload_n 0, 1) := by decide +kernel
theorem dX3_init_1 : decode cX3_init 1 = .ok (.invokespecial 1, 3) := by decide +kernel
theorem dX3_init_4 : decode cX3_init 4 = .ok (.aload_n 0, 1) := by decide +kernel
theorem dX3_init_5 : decode cX3_init 5 = .ok (.bipush 6, 2) := by decide +kernel
theorem dX3_init_7 : decode cX3_init 7 = .ok (.newarray .int, 2) := by decide +kernel
theorem dX3_init_9 : decode cX3_init 9 = .ok (.putfield 7, 3) := by decide +kernel
theorem dX3_init_12 : decode cX3_init 12 = .ok (.aload_n 0, 1) := by decide +kernel
theorem dX3_init_13 : decode cX3_init 13 = .ok (.iconst 0, 1) := by decide +kernel
theorem dX3_init_14 : decode cX3_init 14 = .ok (.anewarray 13, 3) := by decide +kernel
theorem dX3_init_17 : decode cX3_init 17 = .ok (.putfield 14, 3) := by decide +kernel
theorem dX3_init_20 : decode cX3_init 20 = .ok (.return_, 1) := by decide +kernel
theorem dX3_with_0 : decode cX3_with 0 = .ok (.aload_n 0, 1) := by decide +kernel
theorem dX3_with_1 : decode cX3_with 1 = .ok (.arraylength, 1) := by decide +kernel
theorem dX3_with_2 : decode cX3_with 2 = .ok (.iconst 1, 1) := by decide +kernel
theorem dX3_with_3 : decode cX3_with 3 = .ok (.iadd, 1) := by decide +kernel
theorem dX3_with_4 : decode cX3_with 4 = .ok (.anewarray 13, 3) := by decide +kernel
theorem dX3_with_7 : decode cX3_with 7 = .ok (.astore_n 2, 1) := by decide +kernel
theorem dX3_with_8 : decode cX3_with 8 = .ok (.iconst 0, 1) := by decide +kernel
theorem dX3_with_9 : decode cX3_with 9 = .ok (.istore_n 3, 1) := by decide +kernel
theorem dX3_with_10 : decode cX3_with 10 = .ok (.iload_n 3, 1) := by decide +kernel
theorem dX3_with_11 : decode cX3_with 11 = .ok (.aload_n 0, 1) := by decide +kernel
theorem dX3_with_12 : decode cX3_with 12 = .ok (.arraylength, 1) := by decide +kernel
theorem dX3_with_13 : decode cX3_with 13 = .ok (.if_icmp .ge 15, 3) := by decide +kernel
theorem dX3_with_16 : decode cX3_with 16 = .ok (.aload_n 2, 1) := by decide +kernel
theorem dX3_with_17 : decode cX3_with 17 = .ok (.iload_n 3, 1) := by decide +kernel
theorem dX3_with_18 : decode cX3_with 18 = .ok (.aload_n 0, 1) := by decide +kernel
theorem dX3_with_19 : decode cX3_with 19 = .ok (.iload_n 3, 1) := by decide +kernel
theorem dX3_with_20 : decode cX3_with 20 = .ok (.aaload, 1) := by decide +kernel
theorem dX3_with_21 : decode cX3_with 21 = .ok (.aastore, 1) := by decide +kernel
theorem dX3_with_22 : decode cX3_with 22 = .ok (.iinc 3 1, 3) := by decide +kernel
theorem dX3_with_25 : decode cX3_with 25 = .ok (.goto (-15), 3) := by decide +kernel
theorem dX3_with_28 : decode cX3_with 28 = .ok (.aload_n 2, 1) := by decide +kernel
theorem dX3_with_29 : decode cX3_with 29 = .ok (.aload_n 0, 1) := by decide +kernel
theorem dX3_with_30 : decode cX3_with 30 = .ok (.arraylength, 1) := by decide +kernel
theorem dX3_with_31 : decode cX3_with 31 = .ok (.aload_n 1, 1) := by decide +kernel
theorem dX3_with_32 : decode cX3_with 32 = .ok (.aastore, 1) := by decide +kernel
theorem dX3_with_33 : decode cX3_with 33 = .ok (.aload_n 2, 1) := by decide +kernel
theorem dX3_with_34 : decode cX3_with 34 = .ok (.areturn, 1) := by decide +kernel
theorem dX3_at_0 : decode cX3_at 0 = .ok (.aload_n 1, 1) := by decide +kernel
theorem dX3_at_1 : decode cX3_at 1 = .ok (.iload_n 2, 1) := by decide +kernel
theorem dX3_at_2 : decode cX3_at 2 = .ok (.aload_n 1, 1) := by decide +kernel
theorem dX3_at_3 : decode cX3_at 3 = .ok (.arraylength, 1) := by decide +kernel
theorem dX3_at_4 : decode cX3_at 4 = .ok (.irem, 1) := by decide +kernel
theorem dX3_at_5 : decode cX3_at 5 = .ok (.aload_n 1, 1) := by decide +kernel
theorem dX3_at_6 : decode cX3_at 6 = .ok (.arraylength, 1) := by decide +kernel
theorem dX3_at_7 : decode cX3_at 7 = .ok (.iadd, 1) := by decide +kernel
theorem dX3_at_8 : decode cX3_at 8 = .ok (.aload_n 1, 1) := by decide +kernel
theorem dX3_at_9 : decode cX3_at 9 = .ok (.arraylength, 1) := by decide +kernel
theorem dX3_at_10 : decode cX3_at 10 = .ok (.irem, 1) := by decide +kernel
theorem dX3_at_11 : decode cX3_at 11 = .ok (.iaload, 1) := by decide +kernel
theorem dX3_at_12 : decode cX3_at 12 = .ok (.ireturn, 1) := by decide +kernel
set_option maxRecDepth 20000 in
theorem ggX3_bend_X3_at : GoodIn wsX3_bend wsX3_at := goodIn_r _ [5] (by decide +kernel) (by decide +kernel)
set_option maxRecDepth 20000 in
theorem gX3_bend_X3_at : GoodIn wsX3_bend (wsV RX3 18 RX3 yX3_at wsX3_at) := goodIn_app (goodIn_of _ (by decide +kernel)) ggX3_bend_X3_at
theorem dX3_bend_0 : decode cX3_bend 0 = .ok (.iconst 2, 1) := by decide +kernel
theorem dX3_bend_1 : decode cX3_bend 1 = .ok (.aload_n 1, 1) := by decide +kernel
theorem dX3_bend_2 : decode cX3_bend 2 = .ok (.iload_n 2, 1) := by decide +kernel
theorem dX3_bend_3 : decode cX3_bend 3 = .ok (.iaload, 1) := by decide +kernel
theorem dX3_bend_4 : decode cX3_bend 4 = .ok (.imul, 1) := by decide +kernel
theorem dX3_bend_5 : decode cX3_bend 5 = .ok (.aload_n 0, 1) := by decide +kernel
theorem dX3_bend_6 : decode cX3_bend 6 = .ok (.aload_n 1, 1) := by decide +kernel
theorem dX3_bend_7 : decode cX3_bend 7 = .ok (.iload_n 2, 1) := by decide +kernel
theorem dX3_bend_8 : decode cX3_bend 8 = .ok (.iconst 1, 1) := by decide +kernel
theorem dX3_bend_9 : decode cX3_bend 9 = .ok (.iadd, 1) := by decide +kernel
theorem dX3_bend_10 : decode cX3_bend 10 = .ok (.invokevirtual 18, 3) := by decide +kernel
theorem dX3_bend_13 : decode cX3_bend 13 = .ok (.isub, 1) := by decide +kernel
theorem dX3_bend_14 : decode cX3_bend 14 = .ok (.aload_n 0, 1) := by decide +kernel
theorem dX3_bend_15 : decode cX3_bend 15 = .ok (.aload_n 1, 1) := by decide +kernel
theorem dX3_bend_16 : decode cX3_bend 16 = .ok (.iload_n 2, 1) := by decide +kernel
theorem dX3_bend_17 : decode cX3_bend 17 = .ok (.iconst 1, 1) := by decide +kernel
theorem dX3_bend_18 : decode cX3_bend 18 = .ok (.isub, 1) := by decide +kernel
theorem dX3_bend_19 : decode cX3_bend 19 = .ok (.invokevirtual 18, 3) := by decide +kernel
theorem dX3_bend_22 : decode cX3_bend 22 = .ok (.isub, 1) := by decide +kernel
theorem dX3_bend_23 : decode cX3_bend 23 = .ok (.ireturn, 1) := by decide +kernel
theorem dX3_tipped_0 : decode cX3_tipped 0 = .ok (.aload_n 1, 1) := by decide +kernel
theorem dX3_tipped_1 : decode cX3_tipped 1 = .ok (.arraylength, 1) := by decide +kernel
theorem dX3_tipped_2 : decode cX3_tipped 2 = .ok (.istore 4, 2) := by decide +kernel
theorem dX3_tipped_4 : decode cX3_tipped 4 = .ok (.aload_n 1, 1) := by decide +kernel
theorem dX3_tipped_5 : decode cX3_tipped 5 = .ok (.invokevirtual 22, 3) := by decide +kernel
theorem dX3_tipped_8 : decode cX3_tipped 8 = .ok (.checkcast 13, 3) := by decide +kernel
theorem dX3_tipped_11 : decode cX3_tipped 11 = .ok (.astore 5, 2) := by decide +kernel
theorem dX3_tipped_13 : decode cX3_tipped 13 = .ok (.aload 5, 2) := by decide +kernel
theorem dX3_tipped_15 : decode cX3_tipped 15 = .ok (.iload_n 2, 1) := by decide +kernel
theorem dX3_tipped_16 : decode cX3_tipped 16 = .ok (.dup2, 1) := by decide +kernel
theorem dX3_tipped_17 : decode cX3_tipped 17 = .ok (.iaload, 1) := by decide +kernel
theorem dX3_tipped_18 : decode cX3_tipped 18 = .ok (.iconst 2, 1) := by decide +kernel
theorem dX3_tipped_19 : decode cX3_tipped 19 = .ok (.iload_n 3, 1) := by decide +kernel
theorem dX3_tipped_20 : decode cX3_tipped 20 = .ok (.imul, 1) := by decide +kernel
theorem dX3_tipped_21 : decode cX3_tipped 21 = .ok (.isub, 1) := by decide +kernel
theorem dX3_tipped_22 : decode cX3_tipped 22 = .ok (.iastore, 1) := by decide +kernel
theorem dX3_tipped_23 : decode cX3_tipped 23 = .ok (.aload 5, 2) := by decide +kernel
theorem dX3_tipped_25 : decode cX3_tipped 25 = .ok (.iload_n 2, 1) := by decide +kernel
theorem dX3_tipped_26 : decode cX3_tipped 26 = .ok (.iconst 1, 1) := by decide +kernel
theorem dX3_tipped_27 : decode cX3_tipped 27 = .ok (.iadd, 1) := by decide +kernel
theorem dX3_tipped_28 : decode cX3_tipped 28 = .ok (.iload 4, 2) := by decide +kernel
theorem dX3_tipped_30 : decode cX3_tipped 30 = .ok (.irem, 1) := by decide +kernel
theorem dX3_tipped_31 : decode cX3_tipped 31 = .ok (.dup2, 1) := by decide +kernel
theorem dX3_tipped_32 : decode cX3_tipped 32 = .ok (.iaload, 1) := by decide +kernel
theorem dX3_tipped_33 : decode cX3_tipped 33 = .ok (.iload_n 3, 1) := by decide +kernel
theorem dX3_tipped_34 : decode cX3_tipped 34 = .ok (.iadd, 1) := by decide +kernel
theorem dX3_tipped_35 : decode cX3_tipped 35 = .ok (.iastore, 1) := by decide +kernel
theorem dX3_tipped_36 : decode cX3_tipped 36 = .ok (.aload 5, 2) := by decide +kernel
theorem dX3_tipped_38 : decode cX3_tipped 38 = .ok (.iload_n 2, 1) := by decide +kernel
theorem dX3_tipped_39 : decode cX3_tipped 39 = .ok (.iload 4, 2) := by decide +kernel
theorem dX3_tipped_41 : decode cX3_tipped 41 = .ok (.iadd, 1) := by decide +kernel
theorem dX3_tipped_42 : decode cX3_tipped 42 = .ok (.iconst 1, 1) := by decide +kernel
theorem dX3_tipped_43 : decode cX3_tipped 43 = .ok (.isub, 1) := by decide +kernel
theorem dX3_tipped_44 : decode cX3_tipped 44 = .ok (.iload 4, 2) := by decide +kernel
theorem dX3_tipped_46 : decode cX3_tipped 46 = .ok (.irem, 1) := by decide +kernel
theorem dX3_tipped_47 : decode cX3_tipped 47 = .ok (.dup2, 1) := by decide +kernel
theorem dX3_tipped_48 : decode cX3_tipped 48 = .ok (.iaload, 1) := by decide +kernel
theorem dX3_tipped_49 : decode cX3_tipped 49 = .ok (.iload_n 3, 1) := by decide +kernel
theorem dX3_tipped_50 : decode cX3_tipped 50 = .ok (.iadd, 1) := by decide +kernel
theorem dX3_tipped_51 : decode cX3_tipped 51 = .ok (.iastore, 1) := by decide +kernel
theorem dX3_tipped_52 : decode cX3_tipped 52 = .ok (.aload 5, 2) := by decide +kernel
theorem dX3_tipped_54 : decode cX3_tipped 54 = .ok (.areturn, 1) := by decide +kernel
set_option maxRecDepth 20000 in
theorem ggX3_steep_X3_bend : GoodIn wsX3_steep wsX3_bend := goodIn_r _ [5, 6, 7, 8, 4, 9] (by decide +kernel) (by decide +kernel)
set_option maxRecDepth 20000 in
theorem gX3_steep_X3_bend : GoodIn wsX3_steep (wsV RX3 26 RX3 yX3_bend wsX3_bend) := goodIn_app (goodIn_of _ (by decide +kernel)) ggX3_steep_X3_bend
theorem dX3_steep_0 : decode cX3_steep 0 = .ok (.iconst 0, 1) := by decide +kernel
theorem dX3_steep_1 : decode cX3_steep 1 = .ok (.istore_n 2, 1) := by decide +kernel
theorem dX3_steep_2 : decode cX3_steep 2 = .ok (.iload_n 2, 1) := by decide +kernel
theorem dX3_steep_3 : decode cX3_steep 3 = .ok (.aload_n 1, 1) := by decide +kernel
theorem dX3_steep_4 : decode cX3_steep 4 = .ok (.arraylength, 1) := by decide +kernel
theorem dX3_steep_5 : decode cX3_steep 5 = .ok (.if_icmp .ge 21, 3) := by decide +kernel
theorem dX3_steep_8 : decode cX3_steep 8 = .ok (.aload_n 0, 1) := by decide +kernel
theorem dX3_steep_9 : decode cX3_steep 9 = .ok (.aload_n 1, 1) := by decide +kernel
theorem dX3_steep_10 : decode cX3_steep 10 = .ok (.iload_n 2, 1) := by decide +kernel
theorem dX3_steep_11 : decode cX3_steep 11 = .ok (.invokevirtual 26, 3) := by decide +kernel
theorem dX3_steep_14 : decode cX3_steep 14 = .ok (.iconst 3, 1) := by decide +kernel
theorem dX3_steep_15 : decode cX3_steep 15 = .ok (.if_icmp .le 5, 3) := by decide +kernel
theorem dX3_steep_18 : decode cX3_steep 18 = .ok (.iload_n 2, 1) := by decide +kernel
theorem dX3_steep_19 : decode cX3_steep 19 = .ok (.ireturn, 1) := by decide +kernel
theorem dX3_steep_20 : decode cX3_steep 20 = .ok (.iinc 2 1, 3) := by decide +kernel
theorem dX3_steep_23 : decode cX3_steep 23 = .ok (.goto (-21), 3) := by decide +kernel
theorem dX3_steep_26 : decode cX3_steep 26 = .ok (.iconst (-1), 1) := by decide +kernel
theorem dX3_steep_27 : decode cX3_steep 27 = .ok (.ireturn, 1) := by decide +kernel
theorem dX3_spread_0 : decode cX3_spread 0 = .ok (.ldc 31, 2) := by decide +kernel
theorem dX3_spread_2 : decode cX3_spread 2 = .ok (.istore_n 1, 1) := by decide +kernel
theorem dX3_spread_3 : decode cX3_spread 3 = .ok (.ldc 32, 2) := by decide +kernel
theorem dX3_spread_5 : decode cX3_spread 5 = .ok (.istore_n 2, 1) := by decide +kernel
theorem dX3_spread_6 : decode cX3_spread 6 = .ok (.aload_n 0, 1) := by decide +kernel
theorem dX3_spread_7 : decode cX3_spread 7 = .ok (.astore_n 3, 1) := by decide +kernel
theorem dX3_spread_8 : decode cX3_spread 8 = .ok (.aload_n 3, 1) := by decide +kernel
theorem dX3_spread_9 : decode cX3_spread 9 = .ok (.arraylength, 1) := by decide +kernel
theorem dX3_spread_10 : decode cX3_spread 10 = .ok (.istore 4, 2) := by decide +kernel
theorem dX3_spread_12 : decode cX3_spread 12 = .ok (.iconst 0, 1) := by decide +kernel
theorem dX3_spread_13 : decode cX3_spread 13 = .ok (.istore 5, 2) := by decide +kernel
theorem dX3_spread_15 : decode cX3_spread 15 = .ok (.iload 5, 2) := by decide +kernel
theorem dX3_spread_17 : decode cX3_spread 17 = .ok (.iload 4, 2) := by decide +kernel
theorem dX3_spread_19 : decode cX3_spread 19 = .ok (.if_icmp .ge 29, 3) := by decide +kernel
theorem dX3_spread_22 : decode cX3_spread 22 = .ok (.aload_n 3, 1) := by decide +kernel
theorem dX3_spread_23 : decode cX3_spread 23 = .ok (.iload 5, 2) := by decide +kernel
theorem dX3_spread_25 : decode cX3_spread 25 = .ok (.iaload, 1) := by decide +kernel
theorem dX3_spread_26 : decode cX3_spread 26 = .ok (.istore 6, 2) := by decide +kernel
theorem dX3_spread_28 : decode cX3_spread 28 = .ok (.iload_n 1, 1) := by decide +kernel
theorem dX3_spread_29 : decode cX3_spread 29 = .ok (.iload 6, 2) := by decide +kernel
theorem dX3_spread_31 : decode cX3_spread 31 = .ok (.invokestatic 33, 3) := by decide +kernel
theorem dX3_spread_34 : decode cX3_spread 34 = .ok (.istore_n 1, 1) := by decide +kernel
theorem dX3_spread_35 : decode cX3_spread 35 = .ok (.iload_n 2, 1) := by decide +kernel
theorem dX3_spread_36 : decode cX3_spread 36 = .ok (.iload 6, 2) := by decide +kernel
theorem dX3_spread_38 : decode cX3_spread 38 = .ok (.invokestatic 39, 3) := by decide +kernel
theorem dX3_spread_41 : decode cX3_spread 41 = .ok (.istore_n 2, 1) := by decide +kernel
theorem dX3_spread_42 : decode cX3_spread 42 = .ok (.iinc 5 1, 3) := by decide +kernel
theorem dX3_spread_45 : decode cX3_spread 45 = .ok (.goto (-30), 3) := by decide +kernel
theorem dX3_spread_48 : decode cX3_spread 48 = .ok (.iload_n 2, 1) := by decide +kernel
theorem dX3_spread_49 : decode cX3_spread 49 = .ok (.iload_n 1, 1) := by decide +kernel
theorem dX3_spread_50 : decode cX3_spread 50 = .ok (.isub, 1) := by decide +kernel
theorem dX3_spread_51 : decode cX3_spread 51 = .ok (.ireturn, 1) := by decide +kernel
theorem dX3_sum_0 : decode cX3_sum 0 = .ok (.iconst 0, 1) := by decide +kernel
theorem dX3_sum_1 : decode cX3_sum 1 = .ok (.istore_n 1, 1) := by decide +kernel
theorem dX3_sum_2 : decode cX3_sum 2 = .ok (.aload_n 0, 1) := by decide +kernel
theorem dX3_sum_3 : decode cX3_sum 3 = .ok (.astore_n 2, 1) := by decide +kernel
theorem dX3_sum_4 : decode cX3_sum 4 = .ok (.aload_n 2, 1) := by decide +kernel
theorem dX3_sum_5 : decode cX3_sum 5 = .ok (.arraylength, 1) := by decide +kernel
theorem dX3_sum_6 : decode cX3_sum 6 = .ok (.istore_n 3, 1) := by decide +kernel
theorem dX3_sum_7 : decode cX3_sum 7 = .ok (.iconst 0, 1) := by decide +kernel
theorem dX3_sum_8 : decode cX3_sum 8 = .ok (.istore 4, 2) := by decide +kernel
theorem dX3_sum_10 : decode cX3_sum 10 = .ok (.iload 4, 2) := by decide +kernel
theorem dX3_sum_12 : decode cX3_sum 12 = .ok (.iload_n 3, 1) := by decide +kernel
theorem dX3_sum_13 : decode cX3_sum 13 = .ok (.if_icmp .ge 20, 3) := by decide +kernel
theorem dX3_sum_16 : decode cX3_sum 16 = .ok (.aload_n 2, 1) := by decide +kernel
theorem dX3_sum_17 : decode cX3_sum 17 = .ok (.iload 4, 2) := by decide +kernel
theorem dX3_sum_19 : decode cX3_sum 19 = .ok (.iaload, 1) := by decide +kernel
theorem dX3_sum_20 : decode cX3_sum 20 = .ok (.istore 5, 2) := by decide +kernel
theorem dX3_sum_22 : decode cX3_sum 22 = .ok (.iload_n 1, 1) := by decide +kernel
theorem dX3_sum_23 : decode cX3_sum 23 = .ok (.iload 5, 2) := by decide +kernel
theorem dX3_sum_25 : decode cX3_sum 25 = .ok (.iadd, 1) := by decide +kernel
theorem dX3_sum_26 : decode cX3_sum 26 = .ok (.istore_n 1, 1) := by decide +kernel
theorem dX3_sum_27 : decode cX3_sum 27 = .ok (.iinc 4 1, 3) := by decide +kernel
theorem dX3_sum_30 : decode cX3_sum 30 = .ok (.goto (-20), 3) := by decide +kernel
theorem dX3_sum_33 : decode cX3_sum 33 = .ok (.iload_n 1, 1) := by decide +kernel
theorem dX3_sum_34 : decode cX3_sum 34 = .ok (.ireturn, 1) := by decide +kernel
theorem dX3_moment_0 : decode cX3_moment 0 = .ok (.iconst 0, 1) := by decide +kernel
theorem dX3_moment_1 : decode cX3_moment 1 = .ok (.istore_n 1, 1) := by decide +kernel
theorem dX3_moment_2 : decode cX3_moment 2 = .ok (.iconst 0, 1) := by decide +kernel
theorem dX3_moment_3 : decode cX3_moment 3 = .ok (.istore_n 2, 1) := by decide +kernel
theorem dX3_moment_4 : decode cX3_moment 4 = .ok (.iload_n 2, 1) := by decide +kernel
theorem dX3_moment_5 : decode cX3_moment 5 = .ok (.aload_n 0, 1) := by decide +kernel
theorem dX3_moment_6 : decode cX3_moment 6 = .ok (.arraylength, 1) := by decide +kernel
theorem dX3_moment_7 : decode cX3_moment 7 = .ok (.if_icmp .ge 17, 3) := by decide +kernel
theorem dX3_moment_10 : decode cX3_moment 10 = .ok (.iload_n 1, 1) := by decide +kernel
theorem dX3_moment_11 : decode cX3_moment 11 = .ok (.iload_n 2, 1) := by decide +kernel
theorem dX3_moment_12 : decode cX3_moment 12 = .ok (.aload_n 0, 1) := by decide +kernel
theorem dX3_moment_13 : decode cX3_moment 13 = .ok (.iload_n 2, 1) := by decide +kernel
theorem dX3_moment_14 : decode cX3_moment 14 = .ok (.iaload, 1) := by decide +kernel
theorem dX3_moment_15 : decode cX3_moment 15 = .ok (.imul, 1) := by decide +kernel
theorem dX3_moment_16 : decode cX3_moment 16 = .ok (.iadd, 1) := by decide +kernel
theorem dX3_moment_17 : decode cX3_moment 17 = .ok (.istore_n 1, 1) := by decide +kernel
theorem dX3_moment_18 : decode cX3_moment 18 = .ok (.iinc 2 1, 3) := by decide +kernel
theorem dX3_moment_21 : decode cX3_moment 21 = .ok (.goto (-17), 3) := by decide +kernel
theorem dX3_moment_24 : decode cX3_moment 24 = .ok (.iload_n 1, 1) := by decide +kernel
theorem dX3_moment_25 : decode cX3_moment 25 = .ok (.aload_n 0, 1) := by decide +kernel
theorem dX3_moment_26 : decode cX3_moment 26 = .ok (.arraylength, 1) := by decide +kernel
theorem dX3_moment_27 : decode cX3_moment 27 = .ok (.irem, 1) := by decide +kernel
theorem dX3_moment_28 : decode cX3_moment 28 = .ok (.aload_n 0, 1) := by decide +kernel
theorem dX3_moment_29 : decode cX3_moment 29 = .ok (.arraylength, 1) := by decide +kernel
theorem dX3_moment_30 : decode cX3_moment 30 = .ok (.iadd, 1) := by decide +kernel
theorem dX3_moment_31 : decode cX3_moment 31 = .ok (.aload_n 0, 1) := by decide +kernel
theorem dX3_moment_32 : decode cX3_moment 32 = .ok (.arraylength, 1) := by decide +kernel
theorem dX3_moment_33 : decode cX3_moment 33 = .ok (.irem, 1) := by decide +kernel
theorem dX3_moment_34 : decode cX3_moment 34 = .ok (.ireturn, 1) := by decide +kernel
set_option maxRecDepth 20000 in
theorem ggX3_tilt_X3_at : GoodIn wsX3_tilt wsX3_at := goodIn_r _ [6] (by decide +kernel) (by decide +kernel)
set_option maxRecDepth 20000 in
theorem gX3_tilt_X3_at : GoodIn wsX3_tilt (wsV RX3 18 RX3 yX3_at wsX3_at) := goodIn_app (goodIn_of _ (by decide +kernel)) ggX3_tilt_X3_at
theorem dX3_tilt_0 : decode cX3_tilt 0 = .ok (.iconst 0, 1) := by decide +kernel
theorem dX3_tilt_1 : decode cX3_tilt 1 = .ok (.istore_n 2, 1) := by decide +kernel
theorem dX3_tilt_2 : decode cX3_tilt 2 = .ok (.iconst 1, 1) := by decide +kernel
theorem dX3_tilt_3 : decode cX3_tilt 3 = .ok (.istore_n 3, 1) := by decide +kernel
theorem dX3_tilt_4 : decode cX3_tilt 4 = .ok (.iload_n 3, 1) := by decide +kernel
theorem dX3_tilt_5 : decode cX3_tilt 5 = .ok (.aload_n 0, 1) := by decide +kernel
theorem dX3_tilt_6 : decode cX3_tilt 6 = .ok (.getfield 7, 3) := by decide +kernel
theorem dX3_tilt_9 : decode cX3_tilt 9 = .ok (.arraylength, 1) := by decide +kernel
theorem dX3_tilt_10 : decode cX3_tilt 10 = .ok (.iconst 1, 1) := by decide +kernel
theorem dX3_tilt_11 : decode cX3_tilt 11 = .ok (.isub, 1) := by decide +kernel
theorem dX3_tilt_12 : decode cX3_tilt 12 = .ok (.iconst 2, 1) := by decide +kernel
theorem dX3_tilt_13 : decode cX3_tilt 13 = .ok (.idiv, 1) := by decide +kernel
theorem dX3_tilt_14 : decode cX3_tilt 14 = .ok (.if_icmp .gt 37, 3) := by decide +kernel
theorem dX3_tilt_17 : decode cX3_tilt 17 = .ok (.iload_n 2, 1) := by decide +kernel
theorem dX3_tilt_18 : decode cX3_tilt 18 = .ok (.aload_n 0, 1) := by decide +kernel
theorem dX3_tilt_19 : decode cX3_tilt 19 = .ok (.aload_n 0, 1) := by decide +kernel
theorem dX3_tilt_20 : decode cX3_tilt 20 = .ok (.getfield 7, 3) := by decide +kernel
theorem dX3_tilt_23 : decode cX3_tilt 23 = .ok (.iload_n 1, 1) := by decide +kernel
theorem dX3_tilt_24 : decode cX3_tilt 24 = .ok (.iload_n 3, 1) := by decide +kernel
theorem dX3_tilt_25 : decode cX3_tilt 25 = .ok (.iadd, 1) := by decide +kernel
theorem dX3_tilt_26 : decode cX3_tilt 26 = .ok (.invokevirtual 18, 3) := by decide +kernel
theorem dX3_tilt_29 : decode cX3_tilt 29 = .ok (.aload_n 0, 1) := by decide +kernel
theorem dX3_tilt_30 : decode cX3_tilt 30 = .ok (.aload_n 0, 1) := by decide +kernel
theorem dX3_tilt_31 : decode cX3_tilt 31 = .ok (.getfield 7, 3) := by decide +kernel
theorem dX3_tilt_34 : decode cX3_tilt 34 = .ok (.iload_n 1, 1) := by decide +kernel
theorem dX3_tilt_35 : decode cX3_tilt 35 = .ok (.iload_n 3, 1) := by decide +kernel
theorem dX3_tilt_36 : decode cX3_tilt 36 = .ok (.isub, 1) := by decide +kernel
theorem dX3_tilt_37 : decode cX3_tilt 37 = .ok (.invokevirtual 18, 3) := by decide +kernel
theorem dX3_tilt_40 : decode cX3_tilt 40 = .ok (.isub, 1) := by decide +kernel
theorem dX3_tilt_41 : decode cX3_tilt 41 = .ok (.iload_n 3, 1) := by decide +kernel
theorem dX3_tilt_42 : decode cX3_tilt 42 = .ok (.imul, 1) := by decide +kernel
theorem dX3_tilt_43 : decode cX3_tilt 43 = .ok (.iadd, 1) := by decide +kernel
theorem dX3_tilt_44 : decode cX3_tilt 44 = .ok (.istore_n 2, 1) := by decide +kernel
theorem dX3_tilt_45 : decode cX3_tilt 45 = .ok (.iinc 3 1, 3) := by decide +kernel
theorem dX3_tilt_48 : decode cX3_tilt 48 = .ok (.goto (-44), 3) := by decide +kernel
theorem dX3_tilt_51 : decode cX3_tilt 51 = .ok (.iload_n 2, 1) := by decide +kernel
theorem dX3_tilt_52 : decode cX3_tilt 52 = .ok (.ireturn, 1) := by decide +kernel
set_option maxRecDepth 20000 in
theorem ggX3_can_X3_sum : GoodIn wsX3_can wsX3_sum := goodIn_r _ [5] (by decide +kernel) (by decide +kernel)
set_option maxRecDepth 20000 in
theorem gX3_can_X3_sum : GoodIn wsX3_can (va_wsS RX3 42 yX3_sum wsX3_sum) := goodIn_app (goodIn_of _ (by decide +kernel)) ggX3_can_X3_sum
set_option maxRecDepth 20000 in
theorem ggX3_can_X3_moment : GoodIn wsX3_can wsX3_moment := goodIn_r _ [8] (by decide +kernel) (by decide +kernel)
set_option maxRecDepth 20000 in
theorem gX3_can_X3_moment : GoodIn wsX3_can (va_wsS RX3 46 yX3_moment wsX3_moment) := goodIn_app (goodIn_of _ (by decide +kernel)) ggX3_can_X3_moment
theorem dX3_can_0 : decode cX3_can 0 = .ok (.aload_n 1, 1) := by decide +kernel
theorem dX3_can_1 : decode cX3_can 1 = .ok (.invokestatic 42, 3) := by decide +kernel
theorem dX3_can_4 : decode cX3_can 4 = .ok (.aload_n 0, 1) := by decide +kernel
theorem dX3_can_5 : decode cX3_can 5 = .ok (.getfield 14, 3) := by decide +kernel
theorem dX3_can_8 : decode cX3_can 8 = .ok (.iload_n 2, 1) := by decide +kernel
theorem dX3_can_9 : decode cX3_can 9 = .ok (.aaload, 1) := by decide +kernel
theorem dX3_can_10 : decode cX3_can 10 = .ok (.invokestatic 42, 3) := by decide +kernel
theorem dX3_can_13 : decode cX3_can 13 = .ok (.if_icmp .ne 23, 3) := by decide +kernel
theorem dX3_can_16 : decode cX3_can 16 = .ok (.aload_n 1, 1) := by decide +kernel
theorem dX3_can_17 : decode cX3_can 17 = .ok (.invokestatic 46, 3) := by decide +kernel
theorem dX3_can_20 : decode cX3_can 20 = .ok (.aload_n 0, 1) := by decide +kernel
theorem dX3_can_21 : decode cX3_can 21 = .ok (.getfield 14, 3) := by decide +kernel
theorem dX3_can_24 : decode cX3_can 24 = .ok (.iload_n 2, 1) := by decide +kernel
theorem dX3_can_25 : decode cX3_can 25 = .ok (.aaload, 1) := by decide +kernel
theorem dX3_can_26 : decode cX3_can 26 = .ok (.invokestatic 46, 3) := by decide +kernel
theorem dX3_can_29 : decode cX3_can 29 = .ok (.if_icmp .ne 7, 3) := by decide +kernel
theorem dX3_can_32 : decode cX3_can 32 = .ok (.iconst 1, 1) := by decide +kernel
theorem dX3_can_33 : decode cX3_can 33 = .ok (.goto 4, 3) := by decide +kernel
theorem dX3_can_36 : decode cX3_can 36 = .ok (.iconst 0, 1) := by decide +kernel
theorem dX3_can_37 : decode cX3_can 37 = .ok (.ireturn, 1) := by decide +kernel
theorem dX3_tipsTo_0 : decode cX3_tipsTo 0 = .ok (.aload_n 0, 1) := by decide +kernel
theorem dX3_tipsTo_1 : decode cX3_tipsTo 1 = .ok (.getfield 7, 3) := by decide +kernel
theorem dX3_tipsTo_4 : decode cX3_tipsTo 4 = .ok (.arraylength, 1) := by decide +kernel
theorem dX3_tipsTo_5 : decode cX3_tipsTo 5 = .ok (.istore_n 2, 1) := by decide +kernel
theorem dX3_tipsTo_6 : decode cX3_tipsTo 6 = .ok (.iload_n 2, 1) := by decide +kernel
theorem dX3_tipsTo_7 : decode cX3_tipsTo 7 = .ok (.newarray .int, 2) := by decide +kernel
theorem dX3_tipsTo_9 : decode cX3_tipsTo 9 = .ok (.astore_n 3, 1) := by decide +kernel
theorem dX3_tipsTo_10 : decode cX3_tipsTo 10 = .ok (.iconst 0, 1) := by decide +kernel
theorem dX3_tipsTo_11 : decode cX3_tipsTo 11 = .ok (.istore 4, 2) := by decide +kernel
theorem dX3_tipsTo_13 : decode cX3_tipsTo 13 = .ok (.iconst 1, 1) := by decide +kernel
theorem dX3_tipsTo_14 : decode cX3_tipsTo 14 = .ok (.istore 5, 2) := by decide +kernel
theorem dX3_tipsTo_16 : decode cX3_tipsTo 16 = .ok (.iload 5, 2) := by decide +kernel
theorem dX3_tipsTo_18 : decode cX3_tipsTo 18 = .ok (.iload_n 2, 1) := by decide +kernel
theorem dX3_tipsTo_19 : decode cX3_tipsTo 19 = .ok (.if_icmp .ge 46, 3) := by decide +kernel
theorem dX3_tipsTo_22 : decode cX3_tipsTo 22 = .ok (.aload_n 3, 1) := by decide +kernel
theorem dX3_tipsTo_23 : decode cX3_tipsTo 23 = .ok (.iload 5, 2) := by decide +kernel
theorem dX3_tipsTo_25 : decode cX3_tipsTo 25 = .ok (.aload_n 3, 1) := by decide +kernel
theorem dX3_tipsTo_26 : decode cX3_tipsTo 26 = .ok (.iload 5, 2) := by decide +kernel
theorem dX3_tipsTo_28 : decode cX3_tipsTo 28 = .ok (.iconst 1, 1) := by decide +kernel
theorem dX3_tipsTo_29 : decode cX3_tipsTo 29 = .ok (.isub, 1) := by decide +kernel
theorem dX3_tipsTo_30 : decode cX3_tipsTo 30 = .ok (.iaload, 1) := by decide +kernel
theorem dX3_tipsTo_31 : decode cX3_tipsTo 31 = .ok (.aload_n 0, 1) := by decide +kernel
theorem dX3_tipsTo_32 : decode cX3_tipsTo 32 = .ok (.getfield 7, 3) := by decide +kernel
theorem dX3_tipsTo_35 : decode cX3_tipsTo 35 = .ok (.iload 5, 2) := by decide +kernel
theorem dX3_tipsTo_37 : decode cX3_tipsTo 37 = .ok (.iaload, 1) := by decide +kernel
theorem dX3_tipsTo_38 : decode cX3_tipsTo 38 = .ok (.iadd, 1) := by decide +kernel
theorem dX3_tipsTo_39 : decode cX3_tipsTo 39 = .ok (.aload_n 0, 1) := by decide +kernel
theorem dX3_tipsTo_40 : decode cX3_tipsTo 40 = .ok (.getfield 14, 3) := by decide +kernel
theorem dX3_tipsTo_43 : decode cX3_tipsTo 43 = .ok (.iload_n 1, 1) := by decide +kernel
theorem dX3_tipsTo_44 : decode cX3_tipsTo 44 = .ok (.aaload, 1) := by decide +kernel
theorem dX3_tipsTo_45 : decode cX3_tipsTo 45 = .ok (.iload 5, 2) := by decide +kernel
theorem dX3_tipsTo_47 : decode cX3_tipsTo 47 = .ok (.iaload, 1) := by decide +kernel
theorem dX3_tipsTo_48 : decode cX3_tipsTo 48 = .ok (.isub, 1) := by decide +kernel
theorem dX3_tipsTo_49 : decode cX3_tipsTo 49 = .ok (.iastore, 1) := by decide +kernel
theorem dX3_tipsTo_50 : decode cX3_tipsTo 50 = .ok (.iload 4, 2) := by decide +kernel
theorem dX3_tipsTo_52 : decode cX3_tipsTo 52 = .ok (.aload_n 3, 1) := by decide +kernel
theorem dX3_tipsTo_53 : decode cX3_tipsTo 53 = .ok (.iload 5, 2) := by decide +kernel
theorem dX3_tipsTo_55 : decode cX3_tipsTo 55 = .ok (.iaload, 1) := by decide +kernel
theorem dX3_tipsTo_56 : decode cX3_tipsTo 56 = .ok (.iadd, 1) := by decide +kernel
theorem dX3_tipsTo_57 : decode cX3_tipsTo 57 = .ok (.istore 4, 2) := by decide +kernel
theorem dX3_tipsTo_59 : decode cX3_tipsTo 59 = .ok (.iinc 5 1, 3) := by decide +kernel
theorem dX3_tipsTo_62 : decode cX3_tipsTo 62 = .ok (.goto (-46), 3) := by decide +kernel
theorem dX3_tipsTo_65 : decode cX3_tipsTo 65 = .ok (.iload_n 2, 1) := by decide +kernel
theorem dX3_tipsTo_66 : decode cX3_tipsTo 66 = .ok (.newarray .int, 2) := by decide +kernel
theorem dX3_tipsTo_68 : decode cX3_tipsTo 68 = .ok (.astore 5, 2) := by decide +kernel
theorem dX3_tipsTo_70 : decode cX3_tipsTo 70 = .ok (.iconst 1, 1) := by decide +kernel
theorem dX3_tipsTo_71 : decode cX3_tipsTo 71 = .ok (.istore 6, 2) := by decide +kernel
theorem dX3_tipsTo_73 : decode cX3_tipsTo 73 = .ok (.iload 6, 2) := by decide +kernel
theorem dX3_tipsTo_75 : decode cX3_tipsTo 75 = .ok (.iload_n 2, 1) := by decide +kernel
theorem dX3_tipsTo_76 : decode cX3_tipsTo 76 = .ok (.if_icmp .ge 33, 3) := by decide +kernel
theorem dX3_tipsTo_79 : decode cX3_tipsTo 79 = .ok (.aload 5, 2) := by decide +kernel
theorem dX3_tipsTo_81 : decode cX3_tipsTo 81 = .ok (.iload 6, 2) := by decide +kernel
theorem dX3_tipsTo_83 : decode cX3_tipsTo 83 = .ok (.aload 5, 2) := by decide +kernel
theorem dX3_tipsTo_85 : decode cX3_tipsTo 85 = .ok (.iload 6, 2) := by decide +kernel
theorem dX3_tipsTo_87 : decode cX3_tipsTo 87 = .ok (.iconst 1, 1) := by decide +kernel
theorem dX3_tipsTo_88 : decode cX3_tipsTo 88 = .ok (.isub, 1) := by decide +kernel
theorem dX3_tipsTo_89 : decode cX3_tipsTo 89 = .ok (.iaload, 1) := by decide +kernel
theorem dX3_tipsTo_90 : decode cX3_tipsTo 90 = .ok (.iload 4, 2) := by decide +kernel
theorem dX3_tipsTo_92 : decode cX3_tipsTo 92 = .ok (.iload_n 2, 1) := by decide +kernel
theorem dX3_tipsTo_93 : decode cX3_tipsTo 93 = .ok (.idiv, 1) := by decide +kernel
theorem dX3_tipsTo_94 : decode cX3_tipsTo 94 = .ok (.iadd, 1) := by decide +kernel
theorem dX3_tipsTo_95 : decode cX3_tipsTo 95 = .ok (.aload_n 3, 1) := by decide +kernel
theorem dX3_tipsTo_96 : decode cX3_tipsTo 96 = .ok (.iload 6, 2) := by decide +kernel
theorem dX3_tipsTo_98 : decode cX3_tipsTo 98 = .ok (.iconst 1, 1) := by decide +kernel
theorem dX3_tipsTo_99 : decode cX3_tipsTo 99 = .ok (.isub, 1) := by decide +kernel
theorem dX3_tipsTo_100 : decode cX3_tipsTo 100 = .ok (.iaload, 1) := by decide +kernel
theorem dX3_tipsTo_101 : decode cX3_tipsTo 101 = .ok (.isub, 1) := by decide +kernel
theorem dX3_tipsTo_102 : decode cX3_tipsTo 102 = .ok (.iastore, 1) := by decide +kernel
theorem dX3_tipsTo_103 : decode cX3_tipsTo 103 = .ok (.iinc 6 1, 3) := by decide +kernel
theorem dX3_tipsTo_106 : decode cX3_tipsTo 106 = .ok (.goto (-33), 3) := by decide +kernel
theorem dX3_tipsTo_109 : decode cX3_tipsTo 109 = .ok (.aload 5, 2) := by decide +kernel
theorem dX3_tipsTo_111 : decode cX3_tipsTo 111 = .ok (.areturn, 1) := by decide +kernel
set_option maxRecDepth 20000 in
theorem ggX3_fewest_X3_tipsTo : GoodIn wsX3_fewest wsX3_tipsTo := goodIn_r _ [9, 10, 11, 12, 13, 14, 15] (by decide +kernel) (by decide +kernel)
set_option maxRecDepth 20000 in
theorem gX3_fewest_X3_tipsTo : GoodIn wsX3_fewest (wsV RX3 49 RX3 yX3_tipsTo wsX3_tipsTo) := goodIn_app (goodIn_of _ (by decide +kernel)) ggX3_fewest_X3_tipsTo
theorem dX3_fewest_0 : decode cX3_fewest 0 = .ok (.aload_n 0, 1) := by decide +kernel
theorem dX3_fewest_1 : decode cX3_fewest 1 = .ok (.iload_n 1, 1) := by decide +kernel
theorem dX3_fewest_2 : decode cX3_fewest 2 = .ok (.invokevirtual 49, 3) := by decide +kernel
theorem dX3_fewest_5 : decode cX3_fewest 5 = .ok (.astore_n 2, 1) := by decide +kernel
theorem dX3_fewest_6 : decode cX3_fewest 6 = .ok (.aload_n 2, 1) := by decide +kernel
theorem dX3_fewest_7 : decode cX3_fewest 7 = .ok (.arraylength, 1) := by decide +kernel
theorem dX3_fewest_8 : decode cX3_fewest 8 = .ok (.istore_n 3, 1) := by decide +kernel
theorem dX3_fewest_9 : decode cX3_fewest 9 = .ok (.iconst 1, 1) := by decide +kernel
theorem dX3_fewest_10 : decode cX3_fewest 10 = .ok (.istore 4, 2) := by decide +kernel
theorem dX3_fewest_12 : decode cX3_fewest 12 = .ok (.iload 4, 2) := by decide +kernel
theorem dX3_fewest_14 : decode cX3_fewest 14 = .ok (.iload_n 3, 1) := by decide +kernel
theorem dX3_fewest_15 : decode cX3_fewest 15 = .ok (.if_icmp .ge 57, 3) := by decide +kernel
theorem dX3_fewest_18 : decode cX3_fewest 18 = .ok (.aload_n 2, 1) := by decide +kernel
theorem dX3_fewest_19 : decode cX3_fewest 19 = .ok (.iload 4, 2) := by decide +kernel
theorem dX3_fewest_21 : decode cX3_fewest 21 = .ok (.iaload, 1) := by decide +kernel
theorem dX3_fewest_22 : decode cX3_fewest 22 = .ok (.istore 5, 2) := by decide +kernel
theorem dX3_fewest_24 : decode cX3_fewest 24 = .ok (.iload 4, 2) := by decide +kernel
theorem dX3_fewest_26 : decode cX3_fewest 26 = .ok (.istore 6, 2) := by decide +kernel
theorem dX3_fewest_28 : decode cX3_fewest 28 = .ok (.iload 6, 2) := by decide +kernel
theorem dX3_fewest_30 : decode cX3_fewest 30 = .ok (.ifCond .le 30, 3) := by decide +kernel
theorem dX3_fewest_33 : decode cX3_fewest 33 = .ok (.aload_n 2, 1) := by decide +kernel
theorem dX3_fewest_34 : decode cX3_fewest 34 = .ok (.iload 6, 2) := by decide +kernel
theorem dX3_fewest_36 : decode cX3_fewest 36 = .ok (.iconst 1, 1) := by decide +kernel
theorem dX3_fewest_37 : decode cX3_fewest 37 = .ok (.isub, 1) := by decide +kernel
theorem dX3_fewest_38 : decode cX3_fewest 38 = .ok (.iaload, 1) := by decide +kernel
theorem dX3_fewest_39 : decode cX3_fewest 39 = .ok (.iload 5, 2) := by decide +kernel
theorem dX3_fewest_41 : decode cX3_fewest 41 = .ok (.if_icmp .le 19, 3) := by decide +kernel
theorem dX3_fewest_44 : decode cX3_fewest 44 = .ok (.aload_n 2, 1) := by decide +kernel
theorem dX3_fewest_45 : decode cX3_fewest 45 = .ok (.iload 6, 2) := by decide +kernel
theorem dX3_fewest_47 : decode cX3_fewest 47 = .ok (.aload_n 2, 1) := by decide +kernel
theorem dX3_fewest_48 : decode cX3_fewest 48 = .ok (.iload 6, 2) := by decide +kernel
theorem dX3_fewest_50 : decode cX3_fewest 50 = .ok (.iconst 1, 1) := by decide +kernel
theorem dX3_fewest_51 : decode cX3_fewest 51 = .ok (.isub, 1) := by decide +kernel
theorem dX3_fewest_52 : decode cX3_fewest 52 = .ok (.iaload, 1) := by decide +kernel
theorem dX3_fewest_53 : decode cX3_fewest 53 = .ok (.iastore, 1) := by decide +kernel
theorem dX3_fewest_54 : decode cX3_fewest 54 = .ok (.iinc 6 (-1), 3) := by decide +kernel
theorem dX3_fewest_57 : decode cX3_fewest 57 = .ok (.goto (-29), 3) := by decide +kernel
theorem dX3_fewest_60 : decode cX3_fewest 60 = .ok (.aload_n 2, 1) := by decide +kernel
theorem dX3_fewest_61 : decode cX3_fewest 61 = .ok (.iload 6, 2) := by decide +kernel
theorem dX3_fewest_63 : decode cX3_fewest 63 = .ok (.iload 5, 2) := by decide +kernel
theorem dX3_fewest_65 : decode cX3_fewest 65 = .ok (.iastore, 1) := by decide +kernel
theorem dX3_fewest_66 : decode cX3_fewest 66 = .ok (.iinc 4 1, 3) := by decide +kernel
theorem dX3_fewest_69 : decode cX3_fewest 69 = .ok (.goto (-57), 3) := by decide +kernel
theorem dX3_fewest_72 : decode cX3_fewest 72 = .ok (.iconst 0, 1) := by decide +kernel
theorem dX3_fewest_73 : decode cX3_fewest 73 = .ok (.istore 4, 2) := by decide +kernel
theorem dX3_fewest_75 : decode cX3_fewest 75 = .ok (.aload_n 2, 1) := by decide +kernel
theorem dX3_fewest_76 : decode cX3_fewest 76 = .ok (.astore 5, 2) := by decide +kernel
theorem dX3_fewest_78 : decode cX3_fewest 78 = .ok (.aload 5, 2) := by decide +kernel
theorem dX3_fewest_80 : decode cX3_fewest 80 = .ok (.arraylength, 1) := by decide +kernel
theorem dX3_fewest_81 : decode cX3_fewest 81 = .ok (.istore 6, 2) := by decide +kernel
theorem dX3_fewest_83 : decode cX3_fewest 83 = .ok (.iconst 0, 1) := by decide +kernel
theorem dX3_fewest_84 : decode cX3_fewest 84 = .ok (.istore 7, 2) := by decide +kernel
theorem dX3_fewest_86 : decode cX3_fewest 86 = .ok (.iload 7, 2) := by decide +kernel
theorem dX3_fewest_88 : decode cX3_fewest 88 = .ok (.iload 6, 2) := by decide +kernel
theorem dX3_fewest_90 : decode cX3_fewest 90 = .ok (.if_icmp .ge 32, 3) := by decide +kernel
theorem dX3_fewest_93 : decode cX3_fewest 93 = .ok (.aload 5, 2) := by decide +kernel
theorem dX3_fewest_95 : decode cX3_fewest 95 = .ok (.iload 7, 2) := by decide +kernel
theorem dX3_fewest_97 : decode cX3_fewest 97 = .ok (.iaload, 1) := by decide +kernel
theorem dX3_fewest_98 : decode cX3_fewest 98 = .ok (.istore 8, 2) := by decide +kernel
theorem dX3_fewest_100 : decode cX3_fewest 100 = .ok (.iload 4, 2) := by decide +kernel
theorem dX3_fewest_102 : decode cX3_fewest 102 = .ok (.iload 8, 2) := by decide +kernel
theorem dX3_fewest_104 : decode cX3_fewest 104 = .ok (.aload_n 2, 1) := by decide +kernel
theorem dX3_fewest_105 : decode cX3_fewest 105 = .ok (.iload_n 3, 1) := by decide +kernel
theorem dX3_fewest_106 : decode cX3_fewest 106 = .ok (.iconst 2, 1) := by decide +kernel
theorem dX3_fewest_107 : decode cX3_fewest 107 = .ok (.idiv, 1) := by decide +kernel
theorem dX3_fewest_108 : decode cX3_fewest 108 = .ok (.iaload, 1) := by decide +kernel
theorem dX3_fewest_109 : decode cX3_fewest 109 = .ok (.isub, 1) := by decide +kernel
theorem dX3_fewest_110 : decode cX3_fewest 110 = .ok (.invokestatic 53, 3) := by decide +kernel
theorem dX3_fewest_113 : decode cX3_fewest 113 = .ok (.iadd, 1) := by decide +kernel
theorem dX3_fewest_114 : decode cX3_fewest 114 = .ok (.istore 4, 2) := by decide +kernel
theorem dX3_fewest_116 : decode cX3_fewest 116 = .ok (.iinc 7 1, 3) := by decide +kernel
theorem dX3_fewest_119 : decode cX3_fewest 119 = .ok (.goto (-33), 3) := by decide +kernel
theorem dX3_fewest_122 : decode cX3_fewest 122 = .ok (.iload 4, 2) := by decide +kernel
theorem dX3_fewest_124 : decode cX3_fewest 124 = .ok (.ireturn, 1) := by decide +kernel
set_option maxRecDepth 20000 in
theorem ggX3_settle_X3_steep : GoodIn wsX3_settle wsX3_steep := goodIn_r _ [7, 8, 9, 10, 6, 11, 12, 13, 14, 15] (by decide +kernel) (by decide +kernel)
set_option maxRecDepth 20000 in
theorem gX3_settle_X3_steep : GoodIn wsX3_settle (wsV RX3 57 RX3 yX3_steep wsX3_steep) := goodIn_app (goodIn_of _ (by decide +kernel)) ggX3_settle_X3_steep
set_option maxRecDepth 20000 in
theorem ggX3_settle_X3_tipped : GoodIn wsX3_settle wsX3_tipped := goodIn_r _ [19, 20, 21, 22, 23, 24, 25] (by decide +kernel) (by decide +kernel)
set_option maxRecDepth 20000 in
theorem gX3_settle_X3_tipped : GoodIn wsX3_settle (wsV RX3 60 RX3 yX3_tipped wsX3_tipped) := goodIn_app (goodIn_of _ (by decide +kernel)) ggX3_settle_X3_tipped
theorem dX3_settle_0 : decode cX3_settle 0 = .ok (.iconst 0, 1) := by decide +kernel
theorem dX3_settle_1 : decode cX3_settle 1 = .ok (.istore_n 2, 1) := by decide +kernel
theorem dX3_settle_2 : decode cX3_settle 2 = .ok (.iconst 0, 1) := by decide +kernel
theorem dX3_settle_3 : decode cX3_settle 3 = .ok (.istore_n 3, 1) := by decide +kernel
theorem dX3_settle_4 : decode cX3_settle 4 = .ok (.iload_n 3, 1) := by decide +kernel
theorem dX3_settle_5 : decode cX3_settle 5 = .ok (.iload_n 1, 1) := by decide +kernel
theorem dX3_settle_6 : decode cX3_settle 6 = .ok (.if_icmp .ge 44, 3) := by decide +kernel
theorem dX3_settle_9 : decode cX3_settle 9 = .ok (.aload_n 0, 1) := by decide +kernel
theorem dX3_settle_10 : decode cX3_settle 10 = .ok (.aload_n 0, 1) := by decide +kernel
theorem dX3_settle_11 : decode cX3_settle 11 = .ok (.getfield 7, 3) := by decide +kernel
theorem dX3_settle_14 : decode cX3_settle 14 = .ok (.invokevirtual 57, 3) := by decide +kernel
theorem dX3_settle_17 : decode cX3_settle 17 = .ok (.ifCond .lt 33, 3) := by decide +kernel
theorem dX3_settle_20 : decode cX3_settle 20 = .ok (.aload_n 0, 1) := by decide +kernel
theorem dX3_settle_21 : decode cX3_settle 21 = .ok (.aload_n 0, 1) := by decide +kernel
theorem dX3_settle_22 : decode cX3_settle 22 = .ok (.aload_n 0, 1) := by decide +kernel
theorem dX3_settle_23 : decode cX3_settle 23 = .ok (.getfield 7, 3) := by decide +kernel
theorem dX3_settle_26 : decode cX3_settle 26 = .ok (.aload_n 0, 1) := by decide +kernel
theorem dX3_settle_27 : decode cX3_settle 27 = .ok (.aload_n 0, 1) := by decide +kernel
theorem dX3_settle_28 : decode cX3_settle 28 = .ok (.getfield 7, 3) := by decide +kernel
theorem dX3_settle_31 : decode cX3_settle 31 = .ok (.invokevirtual 57, 3) := by decide +kernel
theorem dX3_settle_34 : decode cX3_settle 34 = .ok (.iconst 1, 1) := by decide +kernel
theorem dX3_settle_35 : decode cX3_settle 35 = .ok (.invokevirtual 60, 3) := by decide +kernel
theorem dX3_settle_38 : decode cX3_settle 38 = .ok (.putfield 7, 3) := by decide +kernel
theorem dX3_settle_41 : decode cX3_settle 41 = .ok (.iinc 2 1, 3) := by decide +kernel
theorem dX3_settle_44 : decode cX3_settle 44 = .ok (.iinc 3 1, 3) := by decide +kernel
theorem dX3_settle_47 : decode cX3_settle 47 = .ok (.goto (-43), 3) := by decide +kernel
theorem dX3_settle_50 : decode cX3_settle 50 = .ok (.aload_n 0, 1) := by decide +kernel
theorem dX3_settle_51 : decode cX3_settle 51 = .ok (.dup, 1) := by decide +kernel
theorem dX3_settle_52 : decode cX3_settle 52 = .ok (.getfield 64, 3) := by decide +kernel
theorem dX3_settle_55 : decode cX3_settle 55 = .ok (.iload_n 2, 1) := by decide +kernel
theorem dX3_settle_56 : decode cX3_settle 56 = .ok (.iadd, 1) := by decide +kernel
theorem dX3_settle_57 : decode cX3_settle 57 = .ok (.putfield 64, 3) := by decide +kernel
theorem dX3_settle_60 : decode cX3_settle 60 = .ok (.iload_n 2, 1) := by decide +kernel
theorem dX3_settle_61 : decode cX3_settle 61 = .ok (.ireturn, 1) := by decide +kernel
set_option maxRecDepth 20000 in
theorem ggX3_isSame_X3_tilt : GoodIn wsX3_isSame wsX3_tilt := goodIn_r _ [12, 1, 13, 14, 15, 11, 16, 199, 200, 201] (by decide +kernel) (by decide +kernel)
set_option maxRecDepth 20000 in
theorem gX3_isSame_X3_tilt : GoodIn wsX3_isSame (wsV RX3 68 RX3 yX3_tilt wsX3_tilt) := goodIn_app (goodIn_of _ (by decide +kernel)) ggX3_isSame_X3_tilt
set_option maxRecDepth 20000 in
theorem ggX3_isSame_X3_bend : GoodIn wsX3_isSame wsX3_bend := goodIn_r _ [20, 13, 14, 15, 11, 16] (by decide +kernel) (by decide +kernel)
set_option maxRecDepth 20000 in
theorem gX3_isSame_X3_bend : GoodIn wsX3_isSame (wsV RX3 26 RX3 yX3_bend wsX3_bend) := goodIn_app (goodIn_of _ (by decide +kernel)) ggX3_isSame_X3_bend
set_option maxRecDepth 20000 in
theorem ggX3_isSame_X2_numberAt : GoodIn wsX3_isSame wsX2_numberAt := goodIn_ca (goodIn_r _ [25, 26, 27, 28, 29, 24, 30, 31, 32, 33, 34, 35, 36, 37, 38, 39, 40, 41, 42, 43, 202, 203, 204, 205, 206, 207, 208, 209] (by decide +kernel) (by decide +kernel)) (goodIn_sub (fun _ h => List.mem_cons_of_mem _ (List.mem_append_right _ h)) (by decide +kernel))
set_option maxRecDepth 20000 in
theorem gX3_isSame_X2_numberAt : GoodIn wsX3_isSame (wsV RX3 71 RX2 yX2_numberAt wsX2_numberAt) := goodIn_app (goodIn_of _ (by decide +kernel)) ggX3_isSame_X2_numberAt
set_option maxRecDepth 20000 in
theorem ggX3_isSame_X2_isSteep : GoodIn wsX3_isSame wsX2_isSteep := goodIn_ca (goodIn_r _ [47, 26, 27, 28, 29, 24, 30, 31, 32, 33, 34, 35, 36, 37, 38, 48, 49, 50, 51, 52, 40, 41, 42, 43, 53, 54, 55, 56, 202, 203, 204, 205, 206, 207, 208, 209] (by decide +kernel) (by decide +kernel)) (goodIn_sub (fun _ h => List.mem_cons_of_mem _ (List.mem_append_right _ h)) (by decide +kernel))
set_option maxRecDepth 20000 in
theorem gX3_isSame_X2_isSteep : GoodIn wsX3_isSame (wsV RX3 76 RX2 yX2_isSteep wsX2_isSteep) := goodIn_app (goodIn_of _ (by decide +kernel)) ggX3_isSame_X2_isSteep
set_option maxRecDepth 20000 in
theorem ggX3_isSame_X2_tilt : GoodIn wsX3_isSame wsX2_tilt := goodIn_ca (goodIn_r _ [60, 26, 27, 28, 29, 24, 30, 31, 32, 33, 34, 35, 36, 37, 38, 61, 62, 63, 64, 53, 54, 55, 56, 52, 40, 41, 42, 43, 202, 203, 204, 205, 206, 207, 208, 209] (by decide +kernel) (by decide +kernel)) (goodIn_sub (fun _ h => List.mem_cons_of_mem _ (List.mem_append_right _ h)) (by decide +kernel))
set_option maxRecDepth 20000 in
theorem gX3_isSame_X2_tilt : GoodIn wsX3_isSame (wsV RX3 80 RX2 yX2_tilt wsX2_tilt) := goodIn_app (goodIn_of _ (by decide +kernel)) ggX3_isSame_X2_tilt
set_option maxRecDepth 20000 in
theorem ggX3_isSame_X2_numberIn : GoodIn wsX3_isSame wsX2_numberIn := goodIn_ca (goodIn_r _ [68, 69, 70, 71, 24, 72, 31, 32, 73, 74, 27, 28, 29, 30, 26, 33, 34, 35, 36, 37, 38, 39, 40, 41, 42, 43, 202, 203, 204, 205, 206, 207, 208, 209] (by decide +kernel) (by decide +kernel)) (goodIn_sub (fun _ h => List.mem_cons_of_mem _ (List.mem_append_right _ h)) (by decide +kernel))
set_option maxRecDepth 20000 in
theorem gX3_isSame_X2_numberIn : GoodIn wsX3_isSame (wsV RX3 81 RX2 yX2_numberIn wsX2_numberIn) := goodIn_app (goodIn_of _ (by decide +kernel)) ggX3_isSame_X2_numberIn
set_option maxRecDepth 20000 in
theorem ggX3_isSame_X3_can : GoodIn wsX3_isSame wsX3_can := goodIn_r _ [78, 6, 79, 80, 11, 81, 82, 83, 84, 199, 200, 201] (by decide +kernel) (by decide +kernel)
set_option maxRecDepth 20000 in
theorem gX3_isSame_X3_can : GoodIn wsX3_isSame (wsV RX3 84 RX3 yX3_can wsX3_can) := goodIn_app (goodIn_of _ (by decide +kernel)) ggX3_isSame_X3_can
set_option maxRecDepth 20000 in
theorem ggX3_isSame_X2_differences : GoodIn wsX3_isSame wsX2_differences := goodIn_ca (goodIn_r _ [88, 26, 69, 70, 71, 24, 72, 31, 32, 73, 74, 89, 90, 91, 36, 92, 38, 52, 40, 41, 42, 43, 202, 203, 204, 205, 206, 207, 208, 209] (by decide +kernel) (by decide +kernel)) (goodIn_sub (fun _ h => List.mem_cons_of_mem _ (List.mem_append_right _ h)) (by decide +kernel))
set_option maxRecDepth 20000 in
theorem gX3_isSame_X2_differences : GoodIn wsX3_isSame (wsV RX3 88 RX2 yX2_differences wsX2_differences) := goodIn_app (goodIn_of _ (by decide +kernel)) ggX3_isSame_X2_differences
set_option maxRecDepth 20000 in
theorem ggX3_isSame_X2_canReach : GoodIn wsX3_isSame wsX2_canReach := goodIn_ca (goodIn_r _ [96, 26, 69, 70, 71, 24, 72, 31, 32, 73, 74, 97, 98, 99, 36, 100, 101, 102, 103, 104, 38, 52, 40, 41, 42, 43, 105, 106, 107, 108, 109, 110, 111, 112, 202, 203, 204, 205, 206, 207, 208, 209] (by decide +kernel) (by decide +kernel)) (goodIn_sub (fun _ h => List.mem_cons_of_mem _ (List.mem_append_right _ h)) (by decide +kernel))
set_option maxRecDepth 20000 in
theorem gX3_isSame_X2_canReach : GoodIn wsX3_isSame (wsV RX3 91 RX2 yX2_canReach wsX2_canReach) := goodIn_app (goodIn_of _ (by decide +kernel)) ggX3_isSame_X2_canReach
set_option maxRecDepth 20000 in
theorem ggX3_isSame_X2_places : GoodIn wsX3_isSame wsX2_places := goodIn_r _ [116, 26, 33, 34, 35, 36, 37, 38, 202, 203, 204, 205, 206, 207, 208, 209] (by decide +kernel) (by decide +kernel)
set_option maxRecDepth 20000 in
theorem gX3_isSame_X2_places : GoodIn wsX3_isSame (wsV RX3 94 RX2 yX2_places wsX2_places) := goodIn_app (goodIn_of _ (by decide +kernel)) ggX3_isSame_X2_places
set_option maxRecDepth 20000 in
theorem ggX3_isSame_X2_targets : GoodIn wsX3_isSame wsX2_targets := goodIn_r _ [120, 73, 202, 203, 204, 205, 206, 207] (by decide +kernel) (by decide +kernel)
set_option maxRecDepth 20000 in
theorem gX3_isSame_X2_targets : GoodIn wsX3_isSame (wsV RX3 98 RX2 yX2_targets wsX2_targets) := goodIn_app (goodIn_of _ (by decide +kernel)) ggX3_isSame_X2_targets
set_option maxRecDepth 20000 in
theorem ggX3_isSame_X2_tips : GoodIn wsX3_isSame wsX2_tips := goodIn_r _ [124, 125, 202, 203, 204, 205, 206, 207] (by decide +kernel) (by decide +kernel)
set_option maxRecDepth 20000 in
theorem gX3_isSame_X2_tips : GoodIn wsX3_isSame (wsV RX3 100 RX2 yX2_tips wsX2_tips) := goodIn_app (goodIn_of _ (by decide +kernel)) ggX3_isSame_X2_tips
set_option maxRecDepth 20000 in
theorem ggX3_isSame_X2_sum : GoodIn wsX3_isSame wsX2_sum := goodIn_r _ [129, 26, 130, 102, 103, 36, 104, 38, 52, 40, 41, 42, 43, 202, 203, 204, 205, 206, 207, 208, 209] (by decide +kernel) (by decide +kernel)
set_option maxRecDepth 20000 in
theorem gX3_isSame_X2_sum : GoodIn wsX3_isSame (wsV RX3 102 RX2 yX2_sum wsX2_sum) := goodIn_app (goodIn_of _ (by decide +kernel)) ggX3_isSame_X2_sum
set_option maxRecDepth 20000 in
theorem ggX3_isSame_X3_sum : GoodIn wsX3_isSame wsX3_sum := goodIn_r _ [81] (by decide +kernel) (by decide +kernel)
set_option maxRecDepth 20000 in
theorem gX3_isSame_X3_sum : GoodIn wsX3_isSame (va_wsS RX3 42 yX3_sum wsX3_sum) := goodIn_app (goodIn_of _ (by decide +kernel)) ggX3_isSame_X3_sum
set_option maxRecDepth 20000 in
theorem ggX3_isSame_X2_moment : GoodIn wsX3_isSame wsX2_moment := goodIn_r _ [134, 26, 135, 106, 107, 36, 108, 38, 52, 40, 41, 42, 43, 109, 110, 111, 112, 202, 203, 204, 205, 206, 207, 208, 209] (by decide +kernel) (by decide +kernel)
set_option maxRecDepth 20000 in
theorem gX3_isSame_X2_moment : GoodIn wsX3_isSame (wsV RX3 104 RX2 yX2_moment wsX2_moment) := goodIn_app (goodIn_of _ (by decide +kernel)) ggX3_isSame_X2_moment
set_option maxRecDepth 20000 in
theorem ggX3_isSame_X3_moment : GoodIn wsX3_isSame wsX3_moment := goodIn_r _ [84] (by decide +kernel) (by decide +kernel)
set_option maxRecDepth 20000 in
theorem gX3_isSame_X3_moment : GoodIn wsX3_isSame (va_wsS RX3 46 yX3_moment wsX3_moment) := goodIn_app (goodIn_of _ (by decide +kernel)) ggX3_isSame_X3_moment
set_option maxRecDepth 20000 in
theorem ggX3_isSame_X2_spread : GoodIn wsX3_isSame wsX2_spread := goodIn_r _ [139, 26, 140, 141, 142, 36, 143, 38, 144, 145, 4, 146, 52, 40, 41, 42, 43, 147, 148, 149, 150, 202, 203, 204, 205, 206, 207, 208, 209] (by decide +kernel) (by decide +kernel)
set_option maxRecDepth 20000 in
theorem gX3_isSame_X2_spread : GoodIn wsX3_isSame (wsV RX3 106 RX2 yX2_spread wsX2_spread) := goodIn_app (goodIn_of _ (by decide +kernel)) ggX3_isSame_X2_spread
set_option maxRecDepth 20000 in
theorem ggX3_isSame_X3_spread : GoodIn wsX3_isSame wsX3_spread := goodIn_r _ [153, 154, 155, 156, 145, 4, 146, 157, 158, 159] (by decide +kernel) (by decide +kernel)
set_option maxRecDepth 20000 in
theorem gX3_isSame_X3_spread : GoodIn wsX3_isSame (va_wsS RX3 109 yX3_spread wsX3_spread) := goodIn_app (goodIn_of _ (by decide +kernel)) ggX3_isSame_X3_spread
set_option maxRecDepth 20000 in
theorem ggX3_isSame_X2_highest : GoodIn wsX3_isSame wsX2_highest := goodIn_r _ [163, 26, 164, 148, 149, 36, 150, 38, 52, 40, 41, 42, 43, 202, 203, 204, 205, 206, 207, 208, 209] (by decide +kernel) (by decide +kernel)
set_option maxRecDepth 20000 in
theorem gX3_isSame_X2_highest : GoodIn wsX3_isSame (wsV RX3 111 RX2 yX2_highest wsX2_highest) := goodIn_app (goodIn_of _ (by decide +kernel)) ggX3_isSame_X2_highest
set_option maxRecDepth 20000 in
theorem ggX3_isSame_X2_steepPlaces : GoodIn wsX3_isSame wsX2_steepPlaces := goodIn_r _ [168, 26, 33, 34, 35, 36, 37, 38, 48, 49, 50, 51, 52, 40, 41, 42, 43, 53, 54, 55, 56, 202, 203, 204, 205, 206, 207, 208, 209] (by decide +kernel) (by decide +kernel)
set_option maxRecDepth 20000 in
theorem gX3_isSame_X2_steepPlaces : GoodIn wsX3_isSame (wsV RX3 114 RX2 yX2_steepPlaces wsX2_steepPlaces) := goodIn_app (goodIn_of _ (by decide +kernel)) ggX3_isSame_X2_steepPlaces
set_option maxRecDepth 20000 in
theorem ggX3_isSame_X2_nextToTip : GoodIn wsX3_isSame wsX2_nextToTip := goodIn_r _ [172, 26, 173, 174, 175, 36, 176, 38, 177, 49, 50, 51, 52, 40, 41, 42, 43, 53, 54, 55, 56, 202, 203, 204, 205, 206, 207, 208, 209] (by decide +kernel) (by decide +kernel)
set_option maxRecDepth 20000 in
theorem gX3_isSame_X2_nextToTip : GoodIn wsX3_isSame (wsV RX3 117 RX2 yX2_nextToTip wsX2_nextToTip) := goodIn_app (goodIn_of _ (by decide +kernel)) ggX3_isSame_X2_nextToTip
set_option maxRecDepth 20000 in
theorem ggX3_isSame_X3_steep : GoodIn wsX3_isSame wsX3_steep := goodIn_r _ [181, 17, 18, 19, 11, 20, 13, 14, 15, 16] (by decide +kernel) (by decide +kernel)
set_option maxRecDepth 20000 in
theorem gX3_isSame_X3_steep : GoodIn wsX3_isSame (wsV RX3 57 RX3 yX3_steep wsX3_steep) := goodIn_app (goodIn_of _ (by decide +kernel)) ggX3_isSame_X3_steep
set_option maxRecDepth 20000 in
theorem ggX3_isSame_X2_levelAxes : GoodIn wsX3_isSame wsX2_levelAxes := goodIn_r _ [185, 26, 33, 34, 35, 36, 37, 38, 61, 62, 63, 64, 53, 54, 55, 56, 52, 40, 41, 42, 43, 202, 203, 204, 205, 206, 207, 208, 209] (by decide +kernel) (by decide +kernel)
set_option maxRecDepth 20000 in
theorem gX3_isSame_X2_levelAxes : GoodIn wsX3_isSame (wsV RX3 120 RX2 yX2_levelAxes wsX2_levelAxes) := goodIn_app (goodIn_of _ (by decide +kernel)) ggX3_isSame_X2_levelAxes
set_option maxRecDepth 20000 in
theorem ggX3_isSame_X2_bestAxis : GoodIn wsX3_isSame wsX2_bestAxis := goodIn_r _ [189, 26, 190, 3, 4, 5, 33, 34, 35, 36, 37, 38, 61, 62, 63, 64, 53, 54, 55, 56, 52, 40, 41, 42, 43, 202, 203, 204, 205, 206, 207, 208, 209] (by decide +kernel) (by decide +kernel)
set_option maxRecDepth 20000 in
theorem gX3_isSame_X2_bestAxis : GoodIn wsX3_isSame (wsV RX3 123 RX2 yX2_bestAxis wsX2_bestAxis) := goodIn_app (goodIn_of _ (by decide +kernel)) ggX3_isSame_X2_bestAxis
set_option maxRecDepth 20000 in
theorem ggX3_isSame_X2_reachable : GoodIn wsX3_isSame wsX2_reachable := goodIn_ca (goodIn_r _ [194, 73, 26, 69, 70, 71, 24, 72, 31, 32, 74, 97, 98, 99, 36, 100, 101, 102, 103, 104, 38, 52, 40, 41, 42, 43, 105, 106, 107, 108, 109, 110, 111, 112, 202, 203, 204, 205, 206, 207, 208, 209] (by decide +kernel) (by decide +kernel)) (goodIn_sub (fun _ h => List.mem_cons_of_mem _ (List.mem_append_right _ h)) (by decide +kernel))
set_option maxRecDepth 20000 in
theorem gX3_isSame_X2_reachable : GoodIn wsX3_isSame (wsV RX3 126 RX2 yX2_reachable wsX2_reachable) := goodIn_app (goodIn_of _ (by decide +kernel)) ggX3_isSame_X2_reachable
set_option maxRecDepth 20000 in
theorem ggX3_isSame_X2_meanNumber : GoodIn wsX3_isSame wsX2_meanNumber := goodIn_r _ [198, 26, 33, 34, 35, 36, 37, 38, 130, 102, 103, 104, 52, 40, 41, 42, 43, 202, 203, 204, 205, 206, 207, 208, 209] (by decide +kernel) (by decide +kernel)
set_option maxRecDepth 20000 in
theorem gX3_isSame_X2_meanNumber : GoodIn wsX3_isSame (wsV RX3 129 RX2 yX2_meanNumber wsX2_meanNumber) := goodIn_app (goodIn_of _ (by decide +kernel)) ggX3_isSame_X2_meanNumber
theorem dX3_isSame_0 : decode cX3_isSame 0 = .ok (.aload_n 0, 1) := by decide +kernel
theorem dX3_isSame_1 : decode cX3_isSame 1 = .ok (.getfield 7, 3) := by decide +kernel
theorem dX3_isSame_4 : decode cX3_isSame 4 = .ok (.arraylength, 1) := by decide +kernel
theorem dX3_isSame_5 : decode cX3_isSame 5 = .ok (.istore_n 2, 1) := by decide +kernel
theorem dX3_isSame_6 : decode cX3_isSame 6 = .ok (.iconst 0, 1) := by decide +kernel
theorem dX3_isSame_7 : decode cX3_isSame 7 = .ok (.istore_n 3, 1) := by decide +kernel
theorem dX3_isSame_8 : decode cX3_isSame 8 = .ok (.iconst 0, 1) := by decide +kernel
theorem dX3_isSame_9 : decode cX3_isSame 9 = .ok (.istore 4, 2) := by decide +kernel
theorem dX3_isSame_11 : decode cX3_isSame 11 = .ok (.iload_n 2, 1) := by decide +kernel
theorem dX3_isSame_12 : decode cX3_isSame 12 = .ok (.iconst 1, 1) := by decide +kernel
theorem dX3_isSame_13 : decode cX3_isSame 13 = .ok (.isub, 1) := by decide +kernel
theorem dX3_isSame_14 : decode cX3_isSame 14 = .ok (.istore 5, 2) := by decide +kernel
theorem dX3_isSame_16 : decode cX3_isSame 16 = .ok (.iload_n 2, 1) := by decide +kernel
theorem dX3_isSame_17 : decode cX3_isSame 17 = .ok (.iconst 1, 1) := by decide +kernel
theorem dX3_isSame_18 : decode cX3_isSame 18 = .ok (.isub, 1) := by decide +kernel
theorem dX3_isSame_19 : decode cX3_isSame 19 = .ok (.istore 6, 2) := by decide +kernel
theorem dX3_isSame_21 : decode cX3_isSame 21 = .ok (.iload_n 2, 1) := by decide +kernel
theorem dX3_isSame_22 : decode cX3_isSame 22 = .ok (.iconst 1, 1) := by decide +kernel
theorem dX3_isSame_23 : decode cX3_isSame 23 = .ok (.isub, 1) := by decide +kernel
theorem dX3_isSame_24 : decode cX3_isSame 24 = .ok (.istore 7, 2) := by decide +kernel
theorem dX3_isSame_26 : decode cX3_isSame 26 = .ok (.iload 7, 2) := by decide +kernel
theorem dX3_isSame_28 : decode cX3_isSame 28 = .ok (.ifCond .lt 153, 3) := by decide +kernel
theorem dX3_isSame_31 : decode cX3_isSame 31 = .ok (.aload_n 0, 1) := by decide +kernel
theorem dX3_isSame_32 : decode cX3_isSame 32 = .ok (.iload 7, 2) := by decide +kernel
theorem dX3_isSame_34 : decode cX3_isSame 34 = .ok (.invokevirtual 68, 3) := by decide +kernel
theorem dX3_isSame_37 : decode cX3_isSame 37 = .ok (.istore 8, 2) := by decide +kernel
theorem dX3_isSame_39 : decode cX3_isSame 39 = .ok (.iload_n 3, 1) := by decide +kernel
theorem dX3_isSame_40 : decode cX3_isSame 40 = .ok (.aload_n 0, 1) := by decide +kernel
theorem dX3_isSame_41 : decode cX3_isSame 41 = .ok (.aload_n 0, 1) := by decide +kernel
theorem dX3_isSame_42 : decode cX3_isSame 42 = .ok (.getfield 7, 3) := by decide +kernel
theorem dX3_isSame_45 : decode cX3_isSame 45 = .ok (.iload 7, 2) := by decide +kernel
theorem dX3_isSame_47 : decode cX3_isSame 47 = .ok (.invokevirtual 26, 3) := by decide +kernel
theorem dX3_isSame_50 : decode cX3_isSame 50 = .ok (.iconst 3, 1) := by decide +kernel
theorem dX3_isSame_51 : decode cX3_isSame 51 = .ok (.if_icmp .le 7, 3) := by decide +kernel
theorem dX3_isSame_54 : decode cX3_isSame 54 = .ok (.iconst 1, 1) := by decide +kernel
theorem dX3_isSame_55 : decode cX3_isSame 55 = .ok (.goto 4, 3) := by decide +kernel
theorem dX3_isSame_58 : decode cX3_isSame 58 = .ok (.iconst 0, 1) := by decide +kernel
theorem dX3_isSame_59 : decode cX3_isSame 59 = .ok (.iadd, 1) := by decide +kernel
theorem dX3_isSame_60 : decode cX3_isSame 60 = .ok (.istore_n 3, 1) := by decide +kernel
theorem dX3_isSame_61 : decode cX3_isSame 61 = .ok (.iload 4, 2) := by decide +kernel
theorem dX3_isSame_63 : decode cX3_isSame 63 = .ok (.iload 8, 2) := by decide +kernel
theorem dX3_isSame_65 : decode cX3_isSame 65 = .ok (.ifCond .ne 7, 3) := by decide +kernel
theorem dX3_isSame_68 : decode cX3_isSame 68 = .ok (.iconst 1, 1) := by decide +kernel
theorem dX3_isSame_69 : decode cX3_isSame 69 = .ok (.goto 4, 3) := by decide +kernel
theorem dX3_isSame_72 : decode cX3_isSame 72 = .ok (.iconst 0, 1) := by decide +kernel
theorem dX3_isSame_73 : decode cX3_isSame 73 = .ok (.iadd, 1) := by decide +kernel
theorem dX3_isSame_74 : decode cX3_isSame 74 = .ok (.istore 4, 2) := by decide +kernel
theorem dX3_isSame_76 : decode cX3_isSame 76 = .ok (.iload 8, 2) := by decide +kernel
theorem dX3_isSame_78 : decode cX3_isSame 78 = .ok (.invokestatic 53, 3) := by decide +kernel
theorem dX3_isSame_81 : decode cX3_isSame 81 = .ok (.aload_n 0, 1) := by decide +kernel
theorem dX3_isSame_82 : decode cX3_isSame 82 = .ok (.iload 5, 2) := by decide +kernel
theorem dX3_isSame_84 : decode cX3_isSame 84 = .ok (.invokevirtual 68, 3) := by decide +kernel
theorem dX3_isSame_87 : decode cX3_isSame 87 = .ok (.invokestatic 53, 3) := by decide +kernel
theorem dX3_isSame_90 : decode cX3_isSame 90 = .ok (.if_icmp .gt 7, 3) := by decide +kernel
theorem dX3_isSame_93 : decode cX3_isSame 93 = .ok (.iload 7, 2) := by decide +kernel
theorem dX3_isSame_95 : decode cX3_isSame 95 = .ok (.istore 5, 2) := by decide +kernel
theorem dX3_isSame_97 : decode cX3_isSame 97 = .ok (.aload_n 0, 1) := by decide +kernel
theorem dX3_isSame_98 : decode cX3_isSame 98 = .ok (.getfield 7, 3) := by decide +kernel
theorem dX3_isSame_101 : decode cX3_isSame 101 = .ok (.iload 7, 2) := by decide +kernel
theorem dX3_isSame_103 : decode cX3_isSame 103 = .ok (.iaload, 1) := by decide +kernel
theorem dX3_isSame_104 : decode cX3_isSame 104 = .ok (.aload_n 0, 1) := by decide +kernel
theorem dX3_isSame_105 : decode cX3_isSame 105 = .ok (.getfield 7, 3) := by decide +kernel
theorem dX3_isSame_108 : decode cX3_isSame 108 = .ok (.iload 6, 2) := by decide +kernel
theorem dX3_isSame_110 : decode cX3_isSame 110 = .ok (.iaload, 1) := by decide +kernel
theorem dX3_isSame_111 : decode cX3_isSame 111 = .ok (.if_icmp .lt 7, 3) := by decide +kernel
theorem dX3_isSame_114 : decode cX3_isSame 114 = .ok (.iload 7, 2) := by decide +kernel
theorem dX3_isSame_116 : decode cX3_isSame 116 = .ok (.istore 6, 2) := by decide +kernel
theorem dX3_isSame_118 : decode cX3_isSame 118 = .ok (.aload_n 1, 1) := by decide +kernel
theorem dX3_isSame_119 : decode cX3_isSame 119 = .ok (.iload 7, 2) := by decide +kernel
theorem dX3_isSame_121 : decode cX3_isSame 121 = .ok (.invokevirtual 71, 3) := by decide +kernel
theorem dX3_isSame_124 : decode cX3_isSame 124 = .ok (.aload_n 0, 1) := by decide +kernel
theorem dX3_isSame_125 : decode cX3_isSame 125 = .ok (.getfield 7, 3) := by decide +kernel
theorem dX3_isSame_128 : decode cX3_isSame 128 = .ok (.iload 7, 2) := by decide +kernel
theorem dX3_isSame_130 : decode cX3_isSame 130 = .ok (.iaload, 1) := by decide +kernel
theorem dX3_isSame_131 : decode cX3_isSame 131 = .ok (.if_icmp .ne 42, 3) := by decide +kernel
theorem dX3_isSame_134 : decode cX3_isSame 134 = .ok (.aload_n 1, 1) := by decide +kernel
theorem dX3_isSame_135 : decode cX3_isSame 135 = .ok (.iload 7, 2) := by decide +kernel
theorem dX3_isSame_137 : decode cX3_isSame 137 = .ok (.invokevirtual 76, 3) := by decide +kernel
theorem dX3_isSame_140 : decode cX3_isSame 140 = .ok (.aload_n 0, 1) := by decide +kernel
theorem dX3_isSame_141 : decode cX3_isSame 141 = .ok (.aload_n 0, 1) := by decide +kernel
theorem dX3_isSame_142 : decode cX3_isSame 142 = .ok (.getfield 7, 3) := by decide +kernel
theorem dX3_isSame_145 : decode cX3_isSame 145 = .ok (.iload 7, 2) := by decide +kernel
theorem dX3_isSame_147 : decode cX3_isSame 147 = .ok (.invokevirtual 26, 3) := by decide +kernel
theorem dX3_isSame_150 : decode cX3_isSame 150 = .ok (.iconst 3, 1) := by decide +kernel
theorem dX3_isSame_151 : decode cX3_isSame 151 = .ok (.if_icmp .le 7, 3) := by decide +kernel
theorem dX3_isSame_154 : decode cX3_isSame 154 = .ok (.iconst 1, 1) := by decide +kernel
theorem dX3_isSame_155 : decode cX3_isSame 155 = .ok (.goto 4, 3) := by decide +kernel
theorem dX3_isSame_158 : decode cX3_isSame 158 = .ok (.iconst 0, 1) := by decide +kernel
theorem dX3_isSame_159 : decode cX3_isSame 159 = .ok (.if_icmp .ne 14, 3) := by decide +kernel
theorem dX3_isSame_162 : decode cX3_isSame 162 = .ok (.aload_n 1, 1) := by decide +kernel
theorem dX3_isSame_163 : decode cX3_isSame 163 = .ok (.iload 7, 2) := by decide +kernel
theorem dX3_isSame_165 : decode cX3_isSame 165 = .ok (.invokevirtual 80, 3) := by decide +kernel
theorem dX3_isSame_168 : decode cX3_isSame 168 = .ok (.iload 8, 2) := by decide +kernel
theorem dX3_isSame_170 : decode cX3_isSame 170 = .ok (.if_icmp .eq 5, 3) := by decide +kernel
theorem dX3_isSame_173 : decode cX3_isSame 173 = .ok (.iconst 0, 1) := by decide +kernel
theorem dX3_isSame_174 : decode cX3_isSame 174 = .ok (.ireturn, 1) := by decide +kernel
theorem dX3_isSame_175 : decode cX3_isSame 175 = .ok (.iinc 7 (-1), 3) := by decide +kernel
theorem dX3_isSame_178 : decode cX3_isSame 178 = .ok (.goto (-152), 3) := by decide +kernel
theorem dX3_isSame_181 : decode cX3_isSame 181 = .ok (.iconst 0, 1) := by decide +kernel
theorem dX3_isSame_182 : decode cX3_isSame 182 = .ok (.istore 7, 2) := by decide +kernel
theorem dX3_isSame_184 : decode cX3_isSame 184 = .ok (.iconst 0, 1) := by decide +kernel
theorem dX3_isSame_185 : decode cX3_isSame 185 = .ok (.istore 8, 2) := by decide +kernel
theorem dX3_isSame_187 : decode cX3_isSame 187 = .ok (.iload 8, 2) := by decide +kernel
theorem dX3_isSame_189 : decode cX3_isSame 189 = .ok (.aload_n 0, 1) := by decide +kernel
theorem dX3_isSame_190 : decode cX3_isSame 190 = .ok (.getfield 14, 3) := by decide +kernel
theorem dX3_isSame_193 : decode cX3_isSame 193 = .ok (.arraylength, 1) := by decide +kernel
theorem dX3_isSame_194 : decode cX3_isSame 194 = .ok (.if_icmp .ge 135, 3) := by decide +kernel
theorem dX3_isSame_197 : decode cX3_isSame 197 = .ok (.iconst 0, 1) := by decide +kernel
theorem dX3_isSame_198 : decode cX3_isSame 198 = .ok (.istore 9, 2) := by decide +kernel
theorem dX3_isSame_200 : decode cX3_isSame 200 = .ok (.iconst 0, 1) := by decide +kernel
theorem dX3_isSame_201 : decode cX3_isSame 201 = .ok (.istore 10, 2) := by decide +kernel
theorem dX3_isSame_203 : decode cX3_isSame 203 = .ok (.iload 10, 2) := by decide +kernel
theorem dX3_isSame_205 : decode cX3_isSame 205 = .ok (.iload_n 2, 1) := by decide +kernel
theorem dX3_isSame_206 : decode cX3_isSame 206 = .ok (.if_icmp .ge 62, 3) := by decide +kernel
theorem dX3_isSame_209 : decode cX3_isSame 209 = .ok (.iload 9, 2) := by decide +kernel
theorem dX3_isSame_211 : decode cX3_isSame 211 = .ok (.aload_n 0, 1) := by decide +kernel
theorem dX3_isSame_212 : decode cX3_isSame 212 = .ok (.getfield 7, 3) := by decide +kernel
theorem dX3_isSame_215 : decode cX3_isSame 215 = .ok (.iload 10, 2) := by decide +kernel
theorem dX3_isSame_217 : decode cX3_isSame 217 = .ok (.iaload, 1) := by decide +kernel
theorem dX3_isSame_218 : decode cX3_isSame 218 = .ok (.aload_n 0, 1) := by decide +kernel
theorem dX3_isSame_219 : decode cX3_isSame 219 = .ok (.getfield 14, 3) := by decide +kernel
theorem dX3_isSame_222 : decode cX3_isSame 222 = .ok (.iload 8, 2) := by decide +kernel
theorem dX3_isSame_224 : decode cX3_isSame 224 = .ok (.aaload, 1) := by decide +kernel
theorem dX3_isSame_225 : decode cX3_isSame 225 = .ok (.iload 10, 2) := by decide +kernel
theorem dX3_isSame_227 : decode cX3_isSame 227 = .ok (.iaload, 1) := by decide +kernel
theorem dX3_isSame_228 : decode cX3_isSame 228 = .ok (.if_icmp .eq 7, 3) := by decide +kernel
theorem dX3_isSame_231 : decode cX3_isSame 231 = .ok (.iconst 1, 1) := by decide +kernel
theorem dX3_isSame_232 : decode cX3_isSame 232 = .ok (.goto 4, 3) := by decide +kernel
theorem dX3_isSame_235 : decode cX3_isSame 235 = .ok (.iconst 0, 1) := by decide +kernel
theorem dX3_isSame_236 : decode cX3_isSame 236 = .ok (.iadd, 1) := by decide +kernel
theorem dX3_isSame_237 : decode cX3_isSame 237 = .ok (.istore 9, 2) := by decide +kernel
theorem dX3_isSame_239 : decode cX3_isSame 239 = .ok (.aload_n 1, 1) := by decide +kernel
theorem dX3_isSame_240 : decode cX3_isSame 240 = .ok (.iload 8, 2) := by decide +kernel
theorem dX3_isSame_242 : decode cX3_isSame 242 = .ok (.iload 10, 2) := by decide +kernel
theorem dX3_isSame_244 : decode cX3_isSame 244 = .ok (.invokevirtual 81, 3) := by decide +kernel
theorem dX3_isSame_247 : decode cX3_isSame 247 = .ok (.aload_n 0, 1) := by decide +kernel
theorem dX3_isSame_248 : decode cX3_isSame 248 = .ok (.getfield 14, 3) := by decide +kernel
theorem dX3_isSame_251 : decode cX3_isSame 251 = .ok (.iload 8, 2) := by decide +kernel
theorem dX3_isSame_253 : decode cX3_isSame 253 = .ok (.aaload, 1) := by decide +kernel
theorem dX3_isSame_254 : decode cX3_isSame 254 = .ok (.iload 10, 2) := by decide +kernel
theorem dX3_isSame_256 : decode cX3_isSame 256 = .ok (.iaload, 1) := by decide +kernel
theorem dX3_isSame_257 : decode cX3_isSame 257 = .ok (.if_icmp .eq 5, 3) := by decide +kernel
theorem dX3_isSame_260 : decode cX3_isSame 260 = .ok (.iconst 0, 1) := by decide +kernel
theorem dX3_isSame_261 : decode cX3_isSame 261 = .ok (.ireturn, 1) := by decide +kernel
theorem dX3_isSame_262 : decode cX3_isSame 262 = .ok (.iinc 10 1, 3) := by decide +kernel
theorem dX3_isSame_265 : decode cX3_isSame 265 = .ok (.goto (-62), 3) := by decide +kernel
theorem dX3_isSame_268 : decode cX3_isSame 268 = .ok (.iload 7, 2) := by decide +kernel
theorem dX3_isSame_270 : decode cX3_isSame 270 = .ok (.aload_n 0, 1) := by decide +kernel
theorem dX3_isSame_271 : decode cX3_isSame 271 = .ok (.aload_n 0, 1) := by decide +kernel
theorem dX3_isSame_272 : decode cX3_isSame 272 = .ok (.getfield 7, 3) := by decide +kernel
theorem dX3_isSame_275 : decode cX3_isSame 275 = .ok (.iload 8, 2) := by decide +kernel
theorem dX3_isSame_277 : decode cX3_isSame 277 = .ok (.invokevirtual 84, 3) := by decide +kernel
theorem dX3_isSame_280 : decode cX3_isSame 280 = .ok (.ifCond .eq 7, 3) := by decide +kernel
theorem dX3_isSame_283 : decode cX3_isSame 283 = .ok (.iconst 1, 1) := by decide +kernel
theorem dX3_isSame_284 : decode cX3_isSame 284 = .ok (.goto 4, 3) := by decide +kernel
theorem dX3_isSame_287 : decode cX3_isSame 287 = .ok (.iconst 0, 1) := by decide +kernel
theorem dX3_isSame_288 : decode cX3_isSame 288 = .ok (.iadd, 1) := by decide +kernel
theorem dX3_isSame_289 : decode cX3_isSame 289 = .ok (.istore 7, 2) := by decide +kernel
theorem dX3_isSame_291 : decode cX3_isSame 291 = .ok (.aload_n 1, 1) := by decide +kernel
theorem dX3_isSame_292 : decode cX3_isSame 292 = .ok (.iload 8, 2) := by decide +kernel
theorem dX3_isSame_294 : decode cX3_isSame 294 = .ok (.invokevirtual 88, 3) := by decide +kernel
theorem dX3_isSame_297 : decode cX3_isSame 297 = .ok (.iload 9, 2) := by decide +kernel
theorem dX3_isSame_299 : decode cX3_isSame 299 = .ok (.if_icmp .ne 22, 3) := by decide +kernel
theorem dX3_isSame_302 : decode cX3_isSame 302 = .ok (.aload_n 1, 1) := by decide +kernel
theorem dX3_isSame_303 : decode cX3_isSame 303 = .ok (.iload 8, 2) := by decide +kernel
theorem dX3_isSame_305 : decode cX3_isSame 305 = .ok (.invokevirtual 91, 3) := by decide +kernel
theorem dX3_isSame_308 : decode cX3_isSame 308 = .ok (.aload_n 0, 1) := by decide +kernel
theorem dX3_isSame_309 : decode cX3_isSame 309 = .ok (.aload_n 0, 1) := by decide +kernel
theorem dX3_isSame_310 : decode cX3_isSame 310 = .ok (.getfield 7, 3) := by decide +kernel
theorem dX3_isSame_313 : decode cX3_isSame 313 = .ok (.iload 8, 2) := by decide +kernel
theorem dX3_isSame_315 : decode cX3_isSame 315 = .ok (.invokevirtual 84, 3) := by decide +kernel
theorem dX3_isSame_318 : decode cX3_isSame 318 = .ok (.if_icmp .eq 5, 3) := by decide +kernel
theorem dX3_isSame_321 : decode cX3_isSame 321 = .ok (.iconst 0, 1) := by decide +kernel
theorem dX3_isSame_322 : decode cX3_isSame 322 = .ok (.ireturn, 1) := by decide +kernel
theorem dX3_isSame_323 : decode cX3_isSame 323 = .ok (.iinc 8 1, 3) := by decide +kernel
theorem dX3_isSame_326 : decode cX3_isSame 326 = .ok (.goto (-139), 3) := by decide +kernel
theorem dX3_isSame_329 : decode cX3_isSame 329 = .ok (.aload_n 1, 1) := by decide +kernel
theorem dX3_isSame_330 : decode cX3_isSame 330 = .ok (.invokevirtual 94, 3) := by decide +kernel
theorem dX3_isSame_333 : decode cX3_isSame 333 = .ok (.iload_n 2, 1) := by decide +kernel
theorem dX3_isSame_334 : decode cX3_isSame 334 = .ok (.if_icmp .ne 150, 3) := by decide +kernel
theorem dX3_isSame_337 : decode cX3_isSame 337 = .ok (.aload_n 1, 1) := by decide +kernel
theorem dX3_isSame_338 : decode cX3_isSame 338 = .ok (.invokevirtual 98, 3) := by decide +kernel
theorem dX3_isSame_341 : decode cX3_isSame 341 = .ok (.aload_n 0, 1) := by decide +kernel
theorem dX3_isSame_342 : decode cX3_isSame 342 = .ok (.getfield 14, 3) := by decide +kernel
theorem dX3_isSame_345 : decode cX3_isSame 345 = .ok (.arraylength, 1) := by decide +kernel
theorem dX3_isSame_346 : decode cX3_isSame 346 = .ok (.if_icmp .ne 138, 3) := by decide +kernel
theorem dX3_isSame_349 : decode cX3_isSame 349 = .ok (.aload_n 1, 1) := by decide +kernel
theorem dX3_isSame_350 : decode cX3_isSame 350 = .ok (.invokevirtual 100, 3) := by decide +kernel
theorem dX3_isSame_353 : decode cX3_isSame 353 = .ok (.aload_n 0, 1) := by decide +kernel
theorem dX3_isSame_354 : decode cX3_isSame 354 = .ok (.getfield 64, 3) := by decide +kernel
theorem dX3_isSame_357 : decode cX3_isSame 357 = .ok (.if_icmp .ne 127, 3) := by decide +kernel
theorem dX3_isSame_360 : decode cX3_isSame 360 = .ok (.aload_n 1, 1) := by decide +kernel
theorem dX3_isSame_361 : decode cX3_isSame 361 = .ok (.invokevirtual 102, 3) := by decide +kernel
theorem dX3_isSame_364 : decode cX3_isSame 364 = .ok (.aload_n 0, 1) := by decide +kernel
theorem dX3_isSame_365 : decode cX3_isSame 365 = .ok (.getfield 7, 3) := by decide +kernel
theorem dX3_isSame_368 : decode cX3_isSame 368 = .ok (.invokestatic 42, 3) := by decide +kernel
theorem dX3_isSame_371 : decode cX3_isSame 371 = .ok (.if_icmp .ne 113, 3) := by decide +kernel
theorem dX3_isSame_374 : decode cX3_isSame 374 = .ok (.aload_n 1, 1) := by decide +kernel
theorem dX3_isSame_375 : decode cX3_isSame 375 = .ok (.invokevirtual 104, 3) := by decide +kernel
theorem dX3_isSame_378 : decode cX3_isSame 378 = .ok (.aload_n 0, 1) := by decide +kernel
theorem dX3_isSame_379 : decode cX3_isSame 379 = .ok (.getfield 7, 3) := by decide +kernel
theorem dX3_isSame_382 : decode cX3_isSame 382 = .ok (.invokestatic 46, 3) := by decide +kernel
theorem dX3_isSame_385 : decode cX3_isSame 385 = .ok (.if_icmp .ne 99, 3) := by decide +kernel
theorem dX3_isSame_388 : decode cX3_isSame 388 = .ok (.aload_n 1, 1) := by decide +kernel
theorem dX3_isSame_389 : decode cX3_isSame 389 = .ok (.invokevirtual 106, 3) := by decide +kernel
theorem dX3_isSame_392 : decode cX3_isSame 392 = .ok (.aload_n 0, 1) := by decide +kernel
theorem dX3_isSame_393 : decode cX3_isSame 393 = .ok (.getfield 7, 3) := by decide +kernel
theorem dX3_isSame_396 : decode cX3_isSame 396 = .ok (.invokestatic 109, 3) := by decide +kernel
theorem dX3_isSame_399 : decode cX3_isSame 399 = .ok (.if_icmp .ne 85, 3) := by decide +kernel
theorem dX3_isSame_402 : decode cX3_isSame 402 = .ok (.aload_n 1, 1) := by decide +kernel
theorem dX3_isSame_403 : decode cX3_isSame 403 = .ok (.invokevirtual 111, 3) := by decide +kernel
theorem dX3_isSame_406 : decode cX3_isSame 406 = .ok (.iload 6, 2) := by decide +kernel
theorem dX3_isSame_408 : decode cX3_isSame 408 = .ok (.if_icmp .ne 76, 3) := by decide +kernel
theorem dX3_isSame_411 : decode cX3_isSame 411 = .ok (.aload_n 1, 1) := by decide +kernel
theorem dX3_isSame_412 : decode cX3_isSame 412 = .ok (.invokevirtual 114, 3) := by decide +kernel
theorem dX3_isSame_415 : decode cX3_isSame 415 = .ok (.iload_n 3, 1) := by decide +kernel
theorem dX3_isSame_416 : decode cX3_isSame 416 = .ok (.if_icmp .ne 68, 3) := by decide +kernel
theorem dX3_isSame_419 : decode cX3_isSame 419 = .ok (.aload_n 1, 1) := by decide +kernel
theorem dX3_isSame_420 : decode cX3_isSame 420 = .ok (.invokevirtual 117, 3) := by decide +kernel
theorem dX3_isSame_423 : decode cX3_isSame 423 = .ok (.aload_n 0, 1) := by decide +kernel
theorem dX3_isSame_424 : decode cX3_isSame 424 = .ok (.aload_n 0, 1) := by decide +kernel
theorem dX3_isSame_425 : decode cX3_isSame 425 = .ok (.getfield 7, 3) := by decide +kernel
theorem dX3_isSame_428 : decode cX3_isSame 428 = .ok (.invokevirtual 57, 3) := by decide +kernel
theorem dX3_isSame_431 : decode cX3_isSame 431 = .ok (.if_icmp .ne 53, 3) := by decide +kernel
theorem dX3_isSame_434 : decode cX3_isSame 434 = .ok (.aload_n 1, 1) := by decide +kernel
theorem dX3_isSame_435 : decode cX3_isSame 435 = .ok (.invokevirtual 120, 3) := by decide +kernel
theorem dX3_isSame_438 : decode cX3_isSame 438 = .ok (.iload 4, 2) := by decide +kernel
theorem dX3_isSame_440 : decode cX3_isSame 440 = .ok (.if_icmp .ne 44, 3) := by decide +kernel
theorem dX3_isSame_443 : decode cX3_isSame 443 = .ok (.aload_n 1, 1) := by decide +kernel
theorem dX3_isSame_444 : decode cX3_isSame 444 = .ok (.invokevirtual 123, 3) := by decide +kernel
theorem dX3_isSame_447 : decode cX3_isSame 447 = .ok (.iload 5, 2) := by decide +kernel
theorem dX3_isSame_449 : decode cX3_isSame 449 = .ok (.if_icmp .ne 35, 3) := by decide +kernel
theorem dX3_isSame_452 : decode cX3_isSame 452 = .ok (.aload_n 1, 1) := by decide +kernel
theorem dX3_isSame_453 : decode cX3_isSame 453 = .ok (.invokevirtual 126, 3) := by decide +kernel
theorem dX3_isSame_456 : decode cX3_isSame 456 = .ok (.iload 7, 2) := by decide +kernel
theorem dX3_isSame_458 : decode cX3_isSame 458 = .ok (.if_icmp .ne 26, 3) := by decide +kernel
theorem dX3_isSame_461 : decode cX3_isSame 461 = .ok (.aload_n 1, 1) := by decide +kernel
theorem dX3_isSame_462 : decode cX3_isSame 462 = .ok (.invokevirtual 129, 3) := by decide +kernel
theorem dX3_isSame_465 : decode cX3_isSame 465 = .ok (.aload_n 0, 1) := by decide +kernel
theorem dX3_isSame_466 : decode cX3_isSame 466 = .ok (.getfield 7, 3) := by decide +kernel
theorem dX3_isSame_469 : decode cX3_isSame 469 = .ok (.invokestatic 42, 3) := by decide +kernel
theorem dX3_isSame_472 : decode cX3_isSame 472 = .ok (.i2d, 1) := by decide +kernel
theorem dX3_isSame_473 : decode cX3_isSame 473 = .ok (.iload_n 2, 1) := by decide +kernel
theorem dX3_isSame_474 : decode cX3_isSame 474 = .ok (.i2d, 1) := by decide +kernel
theorem dX3_isSame_475 : decode cX3_isSame 475 = .ok (.ddiv, 1) := by decide +kernel
theorem dX3_isSame_476 : decode cX3_isSame 476 = .ok (.dcmp .l, 1) := by decide +kernel
theorem dX3_isSame_477 : decode cX3_isSame 477 = .ok (.ifCond .ne 7, 3) := by decide +kernel
theorem dX3_isSame_480 : decode cX3_isSame 480 = .ok (.iconst 1, 1) := by decide +kernel
theorem dX3_isSame_481 : decode cX3_isSame 481 = .ok (.goto 4, 3) := by decide +kernel
theorem dX3_isSame_484 : decode cX3_isSame 484 = .ok (.iconst 0, 1) := by decide +kernel
theorem dX3_isSame_485 : decode cX3_isSame 485 = .ok (.ireturn, 1) := by decide +kernel
theorem dJ9_floorMod_7cf53_0 : decode cJ9_floorMod_7cf53 0 = .ok (.iload_n 0, 1) := by decide +kernel
theorem dJ9_floorMod_7cf53_1 : decode cJ9_floorMod_7cf53 1 = .ok (.iload_n 1, 1) := by decide +kernel
theorem dJ9_floorMod_7cf53_2 : decode cJ9_floorMod_7cf53 2 = .ok (.irem, 1) := by decide +kernel
theorem dJ9_floorMod_7cf53_3 : decode cJ9_floorMod_7cf53 3 = .ok (.istore_n 2, 1) := by decide +kernel
theorem dJ9_floorMod_7cf53_4 : decode cJ9_floorMod_7cf53 4 = .ok (.iload_n 0, 1) := by decide +kernel
theorem dJ9_floorMod_7cf53_5 : decode cJ9_floorMod_7cf53 5 = .ok (.iload_n 1, 1) := by decide +kernel
theorem dJ9_floorMod_7cf53_6 : decode cJ9_floorMod_7cf53 6 = .ok (.ixor, 1) := by decide +kernel
theorem dJ9_floorMod_7cf53_7 : decode cJ9_floorMod_7cf53 7 = .ok (.ifCond .ge 11, 3) := by decide +kernel
theorem dJ9_floorMod_7cf53_10 : decode cJ9_floorMod_7cf53 10 = .ok (.iload_n 2, 1) := by decide +kernel
theorem dJ9_floorMod_7cf53_11 : decode cJ9_floorMod_7cf53 11 = .ok (.ifCond .eq 7, 3) := by decide +kernel
theorem dJ9_floorMod_7cf53_14 : decode cJ9_floorMod_7cf53 14 = .ok (.iload_n 2, 1) := by decide +kernel
theorem dJ9_floorMod_7cf53_15 : decode cJ9_floorMod_7cf53 15 = .ok (.iload_n 1, 1) := by decide +kernel
theorem dJ9_floorMod_7cf53_16 : decode cJ9_floorMod_7cf53 16 = .ok (.iadd, 1) := by decide +kernel
theorem dJ9_floorMod_7cf53_17 : decode cJ9_floorMod_7cf53 17 = .ok (.ireturn, 1) := by decide +kernel
theorem dJ9_floorMod_7cf53_18 : decode cJ9_floorMod_7cf53 18 = .ok (.iload_n 2, 1) := by decide +kernel
theorem dJ9_floorMod_7cf53_19 : decode cJ9_floorMod_7cf53 19 = .ok (.ireturn, 1) := by decide +kernel
theorem dJ9_abs_0f7a4_0 : decode cJ9_abs_0f7a4 0 = .ok (.iload_n 0, 1) := by decide +kernel
theorem dJ9_abs_0f7a4_1 : decode cJ9_abs_0f7a4 1 = .ok (.ifCond .ge 8, 3) := by decide +kernel
theorem dJ9_abs_0f7a4_4 : decode cJ9_abs_0f7a4 4 = .ok (.iload_n 0, 1) := by decide +kernel
theorem dJ9_abs_0f7a4_5 : decode cJ9_abs_0f7a4 5 = .ok (.ineg, 1) := by decide +kernel
theorem dJ9_abs_0f7a4_6 : decode cJ9_abs_0f7a4 6 = .ok (.goto 4, 3) := by decide +kernel
theorem dJ9_abs_0f7a4_9 : decode cJ9_abs_0f7a4 9 = .ok (.iload_n 0, 1) := by decide +kernel
theorem dJ9_abs_0f7a4_10 : decode cJ9_abs_0f7a4 10 = .ok (.ireturn, 1) := by decide +kernel
theorem dJ9_max_7cf53_0 : decode cJ9_max_7cf53 0 = .ok (.iload_n 0, 1) := by decide +kernel
theorem dJ9_max_7cf53_1 : decode cJ9_max_7cf53 1 = .ok (.iload_n 1, 1) := by decide +kernel
theorem dJ9_max_7cf53_2 : decode cJ9_max_7cf53 2 = .ok (.if_icmp .lt 7, 3) := by decide +kernel
theorem dJ9_max_7cf53_5 : decode cJ9_max_7cf53 5 = .ok (.iload_n 0, 1) := by decide +kernel
theorem dJ9_max_7cf53_6 : decode cJ9_max_7cf53 6 = .ok (.goto 4, 3) := by decide +kernel
theorem dJ9_max_7cf53_9 : decode cJ9_max_7cf53 9 = .ok (.iload_n 1, 1) := by decide +kernel
theorem dJ9_max_7cf53_10 : decode cJ9_max_7cf53 10 = .ok (.ireturn, 1) := by decide +kernel
theorem dJ9_min_7cf53_0 : decode cJ9_min_7cf53 0 = .ok (.iload_n 0, 1) := by decide +kernel
theorem dJ9_min_7cf53_1 : decode cJ9_min_7cf53 1 = .ok (.iload_n 1, 1) := by decide +kernel
theorem dJ9_min_7cf53_2 : decode cJ9_min_7cf53 2 = .ok (.if_icmp .gt 7, 3) := by decide +kernel
theorem dJ9_min_7cf53_5 : decode cJ9_min_7cf53 5 = .ok (.iload_n 0, 1) := by decide +kernel
theorem dJ9_min_7cf53_6 : decode cJ9_min_7cf53 6 = .ok (.goto 4, 3) := by decide +kernel
theorem dJ9_min_7cf53_9 : decode cJ9_min_7cf53 9 = .ok (.iload_n 1, 1) := by decide +kernel
theorem dJ9_min_7cf53_10 : decode cJ9_min_7cf53 10 = .ok (.ireturn, 1) := by decide +kernel
theorem dL_below_0 : decode cL_below 0 = .ok (.iload_n 0, 1) := by decide +kernel
theorem dL_below_1 : decode cL_below 1 = .ok (.ldc 7, 2) := by decide +kernel
theorem dL_below_3 : decode cL_below 3 = .ok (.iand, 1) := by decide +kernel
theorem dL_below_4 : decode cL_below 4 = .ok (.iload_n 1, 1) := by decide +kernel
theorem dL_below_5 : decode cL_below 5 = .ok (.irem, 1) := by decide +kernel
theorem dL_below_6 : decode cL_below 6 = .ok (.ireturn, 1) := by decide +kernel
theorem dL_cell_0 : decode cL_cell 0 = .ok (.iload_n 1, 1) := by decide +kernel
theorem dL_cell_1 : decode cL_cell 1 = .ok (.aload_n 0, 1) := by decide +kernel
theorem dL_cell_2 : decode cL_cell 2 = .ok (.arraylength, 1) := by decide +kernel
theorem dL_cell_3 : decode cL_cell 3 = .ok (.if_icmp .ge 9, 3) := by decide +kernel
theorem dL_cell_6 : decode cL_cell 6 = .ok (.aload_n 0, 1) := by decide +kernel
theorem dL_cell_7 : decode cL_cell 7 = .ok (.iload_n 1, 1) := by decide +kernel
theorem dL_cell_8 : decode cL_cell 8 = .ok (.iaload, 1) := by decide +kernel
theorem dL_cell_9 : decode cL_cell 9 = .ok (.goto 9, 3) := by decide +kernel
theorem dL_cell_12 : decode cL_cell 12 = .ok (.ldc 8, 2) := by decide +kernel
theorem dL_cell_14 : decode cL_cell 14 = .ok (.iload_n 1, 1) := by decide +kernel
theorem dL_cell_15 : decode cL_cell 15 = .ok (.iconst 3, 1) := by decide +kernel
theorem dL_cell_16 : decode cL_cell 16 = .ok (.iadd, 1) := by decide +kernel
theorem dL_cell_17 : decode cL_cell 17 = .ok (.imul, 1) := by decide +kernel
theorem dL_cell_18 : decode cL_cell 18 = .ok (.ireturn, 1) := by decide +kernel
set_option maxRecDepth 20000 in
theorem ggL_act_L_below : GoodIn wsL_act wsL_below := goodIn_r _ [19, 20] (by decide +kernel) (by decide +kernel)
set_option maxRecDepth 20000 in
theorem gL_act_L_below : GoodIn wsL_act (va_wsS RL 15 yL_below wsL_below) := goodIn_app (goodIn_of _ (by decide +kernel)) ggL_act_L_below
set_option maxRecDepth 20000 in
theorem ggL_act_X2_lay : GoodIn wsL_act wsX2_lay := goodIn_ca (goodIn_r _ [25, 26, 27, 28, 29, 30, 31, 32, 33, 34, 35, 36, 37, 38, 39, 40, 41, 42, 43, 44, 237, 238, 239, 240, 241, 242, 243, 244] (by decide +kernel) (by decide +kernel)) (goodIn_sub (fun _ h => List.mem_cons_of_mem _ (List.mem_append_left _ (List.mem_append_left _ (List.mem_append_right _ h)))) (by decide +kernel))
set_option maxRecDepth 20000 in
theorem gL_act_X2_lay : GoodIn wsL_act (wsV RL 26 RX2 yX2_lay wsX2_lay) := goodIn_app (goodIn_of _ (by decide +kernel)) ggL_act_X2_lay
set_option maxRecDepth 20000 in
theorem ggL_act_X2_put : GoodIn wsL_act wsX2_put := goodIn_ca (goodIn_ca (goodIn_r _ [48, 28, 49, 50, 51, 24, 52, 53, 54, 30, 31, 32, 33, 34, 35, 55, 56, 57, 58, 26, 27, 59, 60, 61, 62, 40, 63, 42, 43, 44, 237, 238, 239, 240, 241, 242, 243, 244] (by decide +kernel) (by decide +kernel)) (goodIn_sub (fun _ h => List.mem_cons_of_mem _ (List.mem_append_left _ (List.mem_append_right _ h))) (by decide +kernel))) (goodIn_sub (fun _ h => List.mem_cons_of_mem _ (List.mem_append_left _ (List.mem_append_left _ (List.mem_append_right _ h)))) (by decide +kernel))
set_option maxRecDepth 20000 in
theorem gL_act_X2_put : GoodIn wsL_act (wsV RL 36 RX2 yX2_put wsX2_put) := goodIn_app (goodIn_of _ (by decide +kernel)) ggL_act_X2_put
set_option maxRecDepth 20000 in
theorem ggL_act_X3_tipped : GoodIn wsL_act wsX3_tipped := goodIn_r _ [68, 69, 7, 8, 9, 10, 70] (by decide +kernel) (by decide +kernel)
set_option maxRecDepth 20000 in
theorem gL_act_X3_tipped : GoodIn wsL_act (wsV RL 39 RX3 yX3_tipped wsX3_tipped) := goodIn_app (goodIn_of _ (by decide +kernel)) ggL_act_X3_tipped
set_option maxRecDepth 20000 in
theorem ggL_act_X2_tip : GoodIn wsL_act wsX2_tip := goodIn_ca (goodIn_ca (goodIn_r _ [74, 28, 75, 76, 13, 14, 15, 49, 50, 51, 24, 52, 53, 54, 30, 31, 32, 33, 34, 35, 77, 78, 79, 80, 26, 27, 81, 82, 83, 84, 85, 86, 87, 88, 89, 60, 61, 62, 40, 41, 42, 43, 44, 90, 91, 92, 93, 59, 237, 238, 239, 240, 241, 242, 243, 244] (by decide +kernel) (by decide +kernel)) (goodIn_sub (fun _ h => List.mem_cons_of_mem _ (List.mem_append_left _ (List.mem_append_right _ h))) (by decide +kernel))) (goodIn_sub (fun _ h => List.mem_cons_of_mem _ (List.mem_append_left _ (List.mem_append_left _ (List.mem_append_right _ h)))) (by decide +kernel))
set_option maxRecDepth 20000 in
theorem gL_act_X2_tip : GoodIn wsL_act (wsV RL 52 RX2 yX2_tip wsX2_tip) := goodIn_app (goodIn_of _ (by decide +kernel)) ggL_act_X2_tip
set_option maxRecDepth 20000 in
theorem ggL_act_X2_turn : GoodIn wsL_act wsX2_turn := goodIn_r _ [97, 28, 98, 99, 100, 33, 101, 35, 89, 60, 61, 62, 40, 41, 42, 43, 44, 59, 237, 238, 239, 240, 241, 242, 243, 244] (by decide +kernel) (by decide +kernel)
set_option maxRecDepth 20000 in
theorem gL_act_X2_turn : GoodIn wsL_act (wsV RL 55 RX2 yX2_turn wsX2_turn) := goodIn_app (goodIn_of _ (by decide +kernel)) ggL_act_X2_turn
set_option maxRecDepth 20000 in
theorem ggL_act_X3_with : GoodIn wsL_act wsX3_with := goodIn_r _ [104, 70] (by decide +kernel) (by decide +kernel)
set_option maxRecDepth 20000 in
theorem gL_act_X3_with : GoodIn wsL_act (va_wsS RL 59 yX3_with wsX3_with) := goodIn_app (goodIn_of _ (by decide +kernel)) ggL_act_X3_with
set_option maxRecDepth 20000 in
theorem ggL_act_X2_keep : GoodIn wsL_act wsX2_keep := goodIn_ca (goodIn_ca (goodIn_r _ [108, 109, 110, 29, 28, 111, 112, 113, 24, 114, 53, 54, 115, 116, 117, 118, 33, 119, 35, 40, 89, 60, 61, 62, 41, 42, 43, 44, 237, 238, 239, 240, 241, 242, 243, 244] (by decide +kernel) (by decide +kernel)) (goodIn_sub (fun _ h => List.mem_cons_of_mem _ (List.mem_append_right _ h)) (by decide +kernel))) (goodIn_sub (fun _ h => List.mem_cons_of_mem _ (List.mem_append_left _ (List.mem_append_right _ h))) (by decide +kernel))
set_option maxRecDepth 20000 in
theorem gL_act_X2_keep : GoodIn wsL_act (wsV RL 63 RX2 yX2_keep wsX2_keep) := goodIn_app (goodIn_of _ (by decide +kernel)) ggL_act_X2_keep
set_option maxRecDepth 20000 in
theorem ggL_act_X2_settle : GoodIn wsL_act wsX2_settle := goodIn_ca (goodIn_r _ [123, 26, 27, 28, 75, 124, 125, 126, 33, 127, 128, 129, 130, 131, 35, 132, 133, 134, 135, 89, 60, 61, 62, 40, 90, 91, 92, 93, 136, 82, 83, 84, 85, 86, 87, 88, 41, 42, 43, 44, 237, 238, 239, 240, 241, 242, 243, 244] (by decide +kernel) (by decide +kernel)) (goodIn_sub (fun _ h => List.mem_cons_of_mem _ (List.mem_append_left _ (List.mem_append_left _ (List.mem_append_right _ h)))) (by decide +kernel))
set_option maxRecDepth 20000 in
theorem gL_act_X2_settle : GoodIn wsL_act (wsV RL 66 RX2 yX2_settle wsX2_settle) := goodIn_app (goodIn_of _ (by decide +kernel)) ggL_act_X2_settle
set_option maxRecDepth 20000 in
theorem ggL_act_X3_settle : GoodIn wsL_act wsX3_settle := goodIn_r _ [140, 141, 142, 143, 144, 145, 67, 146, 147, 148, 149, 150, 151, 152, 153, 154, 155, 65, 66, 68, 69, 7, 8, 9, 10, 70, 234, 235, 236] (by decide +kernel) (by decide +kernel)
set_option maxRecDepth 20000 in
theorem gL_act_X3_settle : GoodIn wsL_act (wsV RL 69 RX3 yX3_settle wsX3_settle) := goodIn_app (goodIn_of _ (by decide +kernel)) ggL_act_X3_settle
set_option maxRecDepth 20000 in
theorem ggL_act_X3_can : GoodIn wsL_act wsX3_can := goodIn_r _ [159, 160, 161, 162, 67, 163, 164, 165, 166, 234, 235, 236] (by decide +kernel) (by decide +kernel)
set_option maxRecDepth 20000 in
theorem gL_act_X3_can : GoodIn wsL_act (wsV RL 70 RX3 yX3_can wsX3_can) := goodIn_app (goodIn_of _ (by decide +kernel)) ggL_act_X3_can
set_option maxRecDepth 20000 in
theorem ggL_act_X3_fewest : GoodIn wsL_act wsX3_fewest := goodIn_r _ [170, 171, 13, 14, 15, 172, 173, 174, 67, 175, 141, 3, 160, 234, 235, 236] (by decide +kernel) (by decide +kernel)
set_option maxRecDepth 20000 in
theorem gL_act_X3_fewest : GoodIn wsL_act (wsV RL 74 RX3 yX3_fewest wsX3_fewest) := goodIn_app (goodIn_of _ (by decide +kernel)) ggL_act_X3_fewest
set_option maxRecDepth 20000 in
theorem ggL_act_X2_reach : GoodIn wsL_act wsX2_reach := goodIn_ca (goodIn_ca (goodIn_r _ [179, 28, 75, 111, 112, 113, 24, 114, 53, 54, 29, 115, 180, 181, 182, 183, 109, 110, 184, 185, 186, 33, 187, 188, 189, 190, 191, 35, 89, 60, 61, 62, 40, 192, 193, 194, 195, 196, 197, 198, 199, 200, 201, 202, 203, 204, 205, 206, 207, 208, 209, 210, 211, 212, 31, 32, 34, 213, 214, 215, 216, 217, 218, 219, 220, 221, 222, 223, 14, 224, 225, 226, 227, 228, 229, 230, 231, 232, 233, 13, 15, 116, 117, 118, 119, 41, 42, 43, 44, 237, 238, 239, 240, 241, 242, 243, 244, 245, 246] (by decide +kernel) (by decide +kernel)) (goodIn_sub (fun _ h => List.mem_cons_of_mem _ (List.mem_append_left _ (List.mem_append_right _ h))) (by decide +kernel))) (goodIn_sub (fun _ h => List.mem_cons_of_mem _ (List.mem_append_right _ h)) (by decide +kernel))
set_option maxRecDepth 20000 in
theorem gL_act_X2_reach : GoodIn wsL_act (wsV RL 77 RX2 yX2_reach wsX2_reach) := goodIn_app (goodIn_of _ (by decide +kernel)) ggL_act_X2_reach
theorem dL_act_0 : decode cL_act 0 = .ok (.aload_n 1, 1) := by decide +kernel
theorem dL_act_1 : decode cL_act 1 = .ok (.getfield 9, 3) := by decide +kernel
theorem dL_act_4 : decode cL_act 4 = .ok (.arraylength, 1) := by decide +kernel
theorem dL_act_5 : decode cL_act 5 = .ok (.istore_n 3, 1) := by decide +kernel
theorem dL_act_6 : decode cL_act 6 = .ok (.iload_n 2, 1) := by decide +kernel
theorem dL_act_7 : decode cL_act 7 = .ok (.iconst 3, 1) := by decide +kernel
theorem dL_act_8 : decode cL_act 8 = .ok (.ishr, 1) := by decide +kernel
theorem dL_act_9 : decode cL_act 9 = .ok (.iload_n 3, 1) := by decide +kernel
theorem dL_act_10 : decode cL_act 10 = .ok (.invokestatic 15, 3) := by decide +kernel
theorem dL_act_13 : decode cL_act 13 = .ok (.istore 4, 2) := by decide +kernel
theorem dL_act_15 : decode cL_act 15 = .ok (.iconst 1, 1) := by decide +kernel
theorem dL_act_16 : decode cL_act 16 = .ok (.istore 5, 2) := by decide +kernel
theorem dL_act_18 : decode cL_act 18 = .ok (.iload_n 2, 1) := by decide +kernel
theorem dL_act_19 : decode cL_act 19 = .ok (.bipush 14, 2) := by decide +kernel
theorem dL_act_21 : decode cL_act 21 = .ok (.invokestatic 15, 3) := by decide +kernel
theorem dL_act_24 : decode cL_act 24 = .ok (.tableswitch 485 0 11 #[64, 120, 120, 120, 211, 211, 211, 211, 309, 368, 368, 435], 64) := by decide +kernel
theorem dL_act_88 : decode cL_act 88 = .ok (.iload_n 2, 1) := by decide +kernel
theorem dL_act_89 : decode cL_act 89 = .ok (.iconst 5, 1) := by decide +kernel
theorem dL_act_90 : decode cL_act 90 = .ok (.ishr, 1) := by decide +kernel
theorem dL_act_91 : decode cL_act 91 = .ok (.iconst 4, 1) := by decide +kernel
theorem dL_act_92 : decode cL_act 92 = .ok (.invokestatic 15, 3) := by decide +kernel
theorem dL_act_95 : decode cL_act 95 = .ok (.ifCond .le 5, 3) := by decide +kernel
theorem dL_act_98 : decode cL_act 98 = .ok (.iconst 1, 1) := by decide +kernel
theorem dL_act_99 : decode cL_act 99 = .ok (.ireturn, 1) := by decide +kernel
theorem dL_act_100 : decode cL_act 100 = .ok (.iconst 3, 1) := by decide +kernel
theorem dL_act_101 : decode cL_act 101 = .ok (.iload_n 2, 1) := by decide +kernel
theorem dL_act_102 : decode cL_act 102 = .ok (.iconst 4, 1) := by decide +kernel
theorem dL_act_103 : decode cL_act 103 = .ok (.ishr, 1) := by decide +kernel
theorem dL_act_104 : decode cL_act 104 = .ok (.bipush 10, 2) := by decide +kernel
theorem dL_act_106 : decode cL_act 106 = .ok (.invokestatic 15, 3) := by decide +kernel
theorem dL_act_109 : decode cL_act 109 = .ok (.iadd, 1) := by decide +kernel
theorem dL_act_110 : decode cL_act 110 = .ok (.istore 6, 2) := by decide +kernel
theorem dL_act_112 : decode cL_act 112 = .ok (.aload_n 1, 1) := by decide +kernel
theorem dL_act_113 : decode cL_act 113 = .ok (.iload 6, 2) := by decide +kernel
theorem dL_act_115 : decode cL_act 115 = .ok (.newarray .int, 2) := by decide +kernel
theorem dL_act_117 : decode cL_act 117 = .ok (.putfield 9, 3) := by decide +kernel
theorem dL_act_120 : decode cL_act 120 = .ok (.aload_n 1, 1) := by decide +kernel
theorem dL_act_121 : decode cL_act 121 = .ok (.iconst 0, 1) := by decide +kernel
theorem dL_act_122 : decode cL_act 122 = .ok (.anewarray 21, 3) := by decide +kernel
theorem dL_act_125 : decode cL_act 125 = .ok (.putfield 22, 3) := by decide +kernel
theorem dL_act_128 : decode cL_act 128 = .ok (.aload_n 0, 1) := by decide +kernel
theorem dL_act_129 : decode cL_act 129 = .ok (.iload 6, 2) := by decide +kernel
theorem dL_act_131 : decode cL_act 131 = .ok (.invokevirtual 26, 3) := by decide +kernel
theorem dL_act_134 : decode cL_act 134 = .ok (.iload_n 3, 1) := by decide +kernel
theorem dL_act_135 : decode cL_act 135 = .ok (.if_icmp .ne 7, 3) := by decide +kernel
theorem dL_act_138 : decode cL_act 138 = .ok (.iconst 1, 1) := by decide +kernel
theorem dL_act_139 : decode cL_act 139 = .ok (.goto 4, 3) := by decide +kernel
theorem dL_act_142 : decode cL_act 142 = .ok (.iconst 0, 1) := by decide +kernel
theorem dL_act_143 : decode cL_act 143 = .ok (.ireturn, 1) := by decide +kernel
theorem dL_act_144 : decode cL_act 144 = .ok (.aload_n 1, 1) := by decide +kernel
theorem dL_act_145 : decode cL_act 145 = .ok (.getfield 9, 3) := by decide +kernel
theorem dL_act_148 : decode cL_act 148 = .ok (.iload 4, 2) := by decide +kernel
theorem dL_act_150 : decode cL_act 150 = .ok (.iaload, 1) := by decide +kernel
theorem dL_act_151 : decode cL_act 151 = .ok (.istore 6, 2) := by decide +kernel
theorem dL_act_153 : decode cL_act 153 = .ok (.iload_n 2, 1) := by decide +kernel
theorem dL_act_154 : decode cL_act 154 = .ok (.bipush 7, 2) := by decide +kernel
theorem dL_act_156 : decode cL_act 156 = .ok (.ishr, 1) := by decide +kernel
theorem dL_act_157 : decode cL_act 157 = .ok (.iconst 3, 1) := by decide +kernel
theorem dL_act_158 : decode cL_act 158 = .ok (.invokestatic 15, 3) := by decide +kernel
theorem dL_act_161 : decode cL_act 161 = .ok (.ifCond .ne 19, 3) := by decide +kernel
theorem dL_act_164 : decode cL_act 164 = .ok (.iload_n 2, 1) := by decide +kernel
theorem dL_act_165 : decode cL_act 165 = .ok (.iconst 5, 1) := by decide +kernel
theorem dL_act_166 : decode cL_act 166 = .ok (.ishr, 1) := by decide +kernel
theorem dL_act_167 : decode cL_act 167 = .ok (.sipush 1999, 3) := by decide +kernel
theorem dL_act_170 : decode cL_act 170 = .ok (.invokestatic 15, 3) := by decide +kernel
theorem dL_act_173 : decode cL_act 173 = .ok (.sipush 999, 3) := by decide +kernel
theorem dL_act_176 : decode cL_act 176 = .ok (.isub, 1) := by decide +kernel
theorem dL_act_177 : decode cL_act 177 = .ok (.goto 14, 3) := by decide +kernel
theorem dL_act_180 : decode cL_act 180 = .ok (.iload_n 2, 1) := by decide +kernel
theorem dL_act_181 : decode cL_act 181 = .ok (.iconst 5, 1) := by decide +kernel
theorem dL_act_182 : decode cL_act 182 = .ok (.ishr, 1) := by decide +kernel
theorem dL_act_183 : decode cL_act 183 = .ok (.bipush 31, 2) := by decide +kernel
theorem dL_act_185 : decode cL_act 185 = .ok (.invokestatic 15, 3) := by decide +kernel
theorem dL_act_188 : decode cL_act 188 = .ok (.bipush 15, 2) := by decide +kernel
theorem dL_act_190 : decode cL_act 190 = .ok (.isub, 1) := by decide +kernel
theorem dL_act_191 : decode cL_act 191 = .ok (.istore 7, 2) := by decide +kernel
theorem dL_act_193 : decode cL_act 193 = .ok (.aload_n 1, 1) := by decide +kernel
theorem dL_act_194 : decode cL_act 194 = .ok (.aload_n 1, 1) := by decide +kernel
theorem dL_act_195 : decode cL_act 195 = .ok (.getfield 9, 3) := by decide +kernel
theorem dL_act_198 : decode cL_act 198 = .ok (.invokevirtual 32, 3) := by decide +kernel
theorem dL_act_201 : decode cL_act 201 = .ok (.checkcast 21, 3) := by decide +kernel
theorem dL_act_204 : decode cL_act 204 = .ok (.putfield 9, 3) := by decide +kernel
theorem dL_act_207 : decode cL_act 207 = .ok (.aload_n 1, 1) := by decide +kernel
theorem dL_act_208 : decode cL_act 208 = .ok (.getfield 9, 3) := by decide +kernel
theorem dL_act_211 : decode cL_act 211 = .ok (.iload 4, 2) := by decide +kernel
theorem dL_act_213 : decode cL_act 213 = .ok (.iload 7, 2) := by decide +kernel
theorem dL_act_215 : decode cL_act 215 = .ok (.iastore, 1) := by decide +kernel
theorem dL_act_216 : decode cL_act 216 = .ok (.aload_n 0, 1) := by decide +kernel
theorem dL_act_217 : decode cL_act 217 = .ok (.iload 4, 2) := by decide +kernel
theorem dL_act_219 : decode cL_act 219 = .ok (.iload 7, 2) := by decide +kernel
theorem dL_act_221 : decode cL_act 221 = .ok (.invokevirtual 36, 3) := by decide +kernel
theorem dL_act_224 : decode cL_act 224 = .ok (.iload 6, 2) := by decide +kernel
theorem dL_act_226 : decode cL_act 226 = .ok (.if_icmp .ne 7, 3) := by decide +kernel
theorem dL_act_229 : decode cL_act 229 = .ok (.iconst 1, 1) := by decide +kernel
theorem dL_act_230 : decode cL_act 230 = .ok (.goto 4, 3) := by decide +kernel
theorem dL_act_233 : decode cL_act 233 = .ok (.iconst 0, 1) := by decide +kernel
theorem dL_act_234 : decode cL_act 234 = .ok (.ireturn, 1) := by decide +kernel
theorem dL_act_235 : decode cL_act 235 = .ok (.iload_n 2, 1) := by decide +kernel
theorem dL_act_236 : decode cL_act 236 = .ok (.iconst 5, 1) := by decide +kernel
theorem dL_act_237 : decode cL_act 237 = .ok (.ishr, 1) := by decide +kernel
theorem dL_act_238 : decode cL_act 238 = .ok (.iload_n 2, 1) := by decide +kernel
theorem dL_act_239 : decode cL_act 239 = .ok (.bipush 8, 2) := by decide +kernel
theorem dL_act_241 : decode cL_act 241 = .ok (.ishr, 1) := by decide +kernel
theorem dL_act_242 : decode cL_act 242 = .ok (.iconst 2, 1) := by decide +kernel
theorem dL_act_243 : decode cL_act 243 = .ok (.invokestatic 15, 3) := by decide +kernel
theorem dL_act_246 : decode cL_act 246 = .ok (.ifCond .ne 8, 3) := by decide +kernel
theorem dL_act_249 : decode cL_act 249 = .ok (.bipush 101, 2) := by decide +kernel
theorem dL_act_251 : decode cL_act 251 = .ok (.goto 5, 3) := by decide +kernel
theorem dL_act_254 : decode cL_act 254 = .ok (.bipush 7, 2) := by decide +kernel
theorem dL_act_256 : decode cL_act 256 = .ok (.invokestatic 15, 3) := by decide +kernel
theorem dL_act_259 : decode cL_act 259 = .ok (.iload_n 2, 1) := by decide +kernel
theorem dL_act_260 : decode cL_act 260 = .ok (.bipush 8, 2) := by decide +kernel
theorem dL_act_262 : decode cL_act 262 = .ok (.ishr, 1) := by decide +kernel
theorem dL_act_263 : decode cL_act 263 = .ok (.iconst 2, 1) := by decide +kernel
theorem dL_act_264 : decode cL_act 264 = .ok (.invokestatic 15, 3) := by decide +kernel
theorem dL_act_267 : decode cL_act 267 = .ok (.ifCond .ne 8, 3) := by decide +kernel
theorem dL_act_270 : decode cL_act 270 = .ok (.bipush 50, 2) := by decide +kernel
theorem dL_act_272 : decode cL_act 272 = .ok (.goto 4, 3) := by decide +kernel
theorem dL_act_275 : decode cL_act 275 = .ok (.iconst 3, 1) := by decide +kernel
theorem dL_act_276 : decode cL_act 276 = .ok (.isub, 1) := by decide +kernel
theorem dL_act_277 : decode cL_act 277 = .ok (.istore 6, 2) := by decide +kernel
theorem dL_act_279 : decode cL_act 279 = .ok (.aload_n 1, 1) := by decide +kernel
theorem dL_act_280 : decode cL_act 280 = .ok (.aload_n 1, 1) := by decide +kernel
theorem dL_act_281 : decode cL_act 281 = .ok (.aload_n 1, 1) := by decide +kernel
theorem dL_act_282 : decode cL_act 282 = .ok (.getfield 9, 3) := by decide +kernel
theorem dL_act_285 : decode cL_act 285 = .ok (.iload 4, 2) := by decide +kernel
theorem dL_act_287 : decode cL_act 287 = .ok (.iload 6, 2) := by decide +kernel
theorem dL_act_289 : decode cL_act 289 = .ok (.invokevirtual 39, 3) := by decide +kernel
theorem dL_act_292 : decode cL_act 292 = .ok (.putfield 9, 3) := by decide +kernel
theorem dL_act_295 : decode cL_act 295 = .ok (.aload_n 1, 1) := by decide +kernel
theorem dL_act_296 : decode cL_act 296 = .ok (.dup, 1) := by decide +kernel
theorem dL_act_297 : decode cL_act 297 = .ok (.getfield 43, 3) := by decide +kernel
theorem dL_act_300 : decode cL_act 300 = .ok (.iload 6, 2) := by decide +kernel
theorem dL_act_302 : decode cL_act 302 = .ok (.invokestatic 47, 3) := by decide +kernel
theorem dL_act_305 : decode cL_act 305 = .ok (.iadd, 1) := by decide +kernel
theorem dL_act_306 : decode cL_act 306 = .ok (.putfield 43, 3) := by decide +kernel
theorem dL_act_309 : decode cL_act 309 = .ok (.aload_n 0, 1) := by decide +kernel
theorem dL_act_310 : decode cL_act 310 = .ok (.iload 4, 2) := by decide +kernel
theorem dL_act_312 : decode cL_act 312 = .ok (.iload 6, 2) := by decide +kernel
theorem dL_act_314 : decode cL_act 314 = .ok (.invokevirtual 52, 3) := by decide +kernel
theorem dL_act_317 : decode cL_act 317 = .ok (.aload_n 1, 1) := by decide +kernel
theorem dL_act_318 : decode cL_act 318 = .ok (.getfield 9, 3) := by decide +kernel
theorem dL_act_321 : decode cL_act 321 = .ok (.iload 4, 2) := by decide +kernel
theorem dL_act_323 : decode cL_act 323 = .ok (.iaload, 1) := by decide +kernel
theorem dL_act_324 : decode cL_act 324 = .ok (.if_icmp .ne 7, 3) := by decide +kernel
theorem dL_act_327 : decode cL_act 327 = .ok (.iconst 1, 1) := by decide +kernel
theorem dL_act_328 : decode cL_act 328 = .ok (.goto 4, 3) := by decide +kernel
theorem dL_act_331 : decode cL_act 331 = .ok (.iconst 0, 1) := by decide +kernel
theorem dL_act_332 : decode cL_act 332 = .ok (.ireturn, 1) := by decide +kernel
theorem dL_act_333 : decode cL_act 333 = .ok (.iload_n 3, 1) := by decide +kernel
theorem dL_act_334 : decode cL_act 334 = .ok (.newarray .int, 2) := by decide +kernel
theorem dL_act_336 : decode cL_act 336 = .ok (.astore 6, 2) := by decide +kernel
theorem dL_act_338 : decode cL_act 338 = .ok (.iconst 0, 1) := by decide +kernel
theorem dL_act_339 : decode cL_act 339 = .ok (.istore 7, 2) := by decide +kernel
theorem dL_act_341 : decode cL_act 341 = .ok (.iload 7, 2) := by decide +kernel
theorem dL_act_343 : decode cL_act 343 = .ok (.iload_n 3, 1) := by decide +kernel
theorem dL_act_344 : decode cL_act 344 = .ok (.if_icmp .ge 25, 3) := by decide +kernel
theorem dL_act_347 : decode cL_act 347 = .ok (.aload 6, 2) := by decide +kernel
theorem dL_act_349 : decode cL_act 349 = .ok (.iload 7, 2) := by decide +kernel
theorem dL_act_351 : decode cL_act 351 = .ok (.iconst 1, 1) := by decide +kernel
theorem dL_act_352 : decode cL_act 352 = .ok (.iadd, 1) := by decide +kernel
theorem dL_act_353 : decode cL_act 353 = .ok (.iload_n 3, 1) := by decide +kernel
theorem dL_act_354 : decode cL_act 354 = .ok (.irem, 1) := by decide +kernel
theorem dL_act_355 : decode cL_act 355 = .ok (.aload_n 1, 1) := by decide +kernel
theorem dL_act_356 : decode cL_act 356 = .ok (.getfield 9, 3) := by decide +kernel
theorem dL_act_359 : decode cL_act 359 = .ok (.iload 7, 2) := by decide +kernel
theorem dL_act_361 : decode cL_act 361 = .ok (.iaload, 1) := by decide +kernel
theorem dL_act_362 : decode cL_act 362 = .ok (.iastore, 1) := by decide +kernel
theorem dL_act_363 : decode cL_act 363 = .ok (.iinc 7 1, 3) := by decide +kernel
theorem dL_act_366 : decode cL_act 366 = .ok (.goto (-25), 3) := by decide +kernel
theorem dL_act_369 : decode cL_act 369 = .ok (.aload_n 1, 1) := by decide +kernel
theorem dL_act_370 : decode cL_act 370 = .ok (.aload 6, 2) := by decide +kernel
theorem dL_act_372 : decode cL_act 372 = .ok (.putfield 9, 3) := by decide +kernel
theorem dL_act_375 : decode cL_act 375 = .ok (.aload_n 0, 1) := by decide +kernel
theorem dL_act_376 : decode cL_act 376 = .ok (.invokevirtual 55, 3) := by decide +kernel
theorem dL_act_379 : decode cL_act 379 = .ok (.aload 6, 2) := by decide +kernel
theorem dL_act_381 : decode cL_act 381 = .ok (.iconst 0, 1) := by decide +kernel
theorem dL_act_382 : decode cL_act 382 = .ok (.iaload, 1) := by decide +kernel
theorem dL_act_383 : decode cL_act 383 = .ok (.if_icmp .ne 7, 3) := by decide +kernel
theorem dL_act_386 : decode cL_act 386 = .ok (.iconst 1, 1) := by decide +kernel
theorem dL_act_387 : decode cL_act 387 = .ok (.goto 4, 3) := by decide +kernel
theorem dL_act_390 : decode cL_act 390 = .ok (.iconst 0, 1) := by decide +kernel
theorem dL_act_391 : decode cL_act 391 = .ok (.ireturn, 1) := by decide +kernel
theorem dL_act_392 : decode cL_act 392 = .ok (.aload_n 1, 1) := by decide +kernel
theorem dL_act_393 : decode cL_act 393 = .ok (.getfield 22, 3) := by decide +kernel
theorem dL_act_396 : decode cL_act 396 = .ok (.arraylength, 1) := by decide +kernel
theorem dL_act_397 : decode cL_act 397 = .ok (.istore 6, 2) := by decide +kernel
theorem dL_act_399 : decode cL_act 399 = .ok (.iload 6, 2) := by decide +kernel
theorem dL_act_401 : decode cL_act 401 = .ok (.bipush 6, 2) := by decide +kernel
theorem dL_act_403 : decode cL_act 403 = .ok (.if_icmp .ge 7, 3) := by decide +kernel
theorem dL_act_406 : decode cL_act 406 = .ok (.iconst 1, 1) := by decide +kernel
theorem dL_act_407 : decode cL_act 407 = .ok (.goto 4, 3) := by decide +kernel
theorem dL_act_410 : decode cL_act 410 = .ok (.iconst 0, 1) := by decide +kernel
theorem dL_act_411 : decode cL_act 411 = .ok (.istore 5, 2) := by decide +kernel
theorem dL_act_413 : decode cL_act 413 = .ok (.iload 5, 2) := by decide +kernel
theorem dL_act_415 : decode cL_act 415 = .ok (.ifCond .eq 24, 3) := by decide +kernel
theorem dL_act_418 : decode cL_act 418 = .ok (.aload_n 1, 1) := by decide +kernel
theorem dL_act_419 : decode cL_act 419 = .ok (.aload_n 1, 1) := by decide +kernel
theorem dL_act_420 : decode cL_act 420 = .ok (.getfield 22, 3) := by decide +kernel
theorem dL_act_423 : decode cL_act 423 = .ok (.aload_n 1, 1) := by decide +kernel
theorem dL_act_424 : decode cL_act 424 = .ok (.getfield 9, 3) := by decide +kernel
theorem dL_act_427 : decode cL_act 427 = .ok (.invokevirtual 32, 3) := by decide +kernel
theorem dL_act_430 : decode cL_act 430 = .ok (.checkcast 21, 3) := by decide +kernel
theorem dL_act_433 : decode cL_act 433 = .ok (.invokestatic 59, 3) := by decide +kernel
theorem dL_act_436 : decode cL_act 436 = .ok (.putfield 22, 3) := by decide +kernel
theorem dL_act_439 : decode cL_act 439 = .ok (.aload_n 0, 1) := by decide +kernel
theorem dL_act_440 : decode cL_act 440 = .ok (.invokevirtual 63, 3) := by decide +kernel
theorem dL_act_443 : decode cL_act 443 = .ok (.iload 6, 2) := by decide +kernel
theorem dL_act_445 : decode cL_act 445 = .ok (.if_icmp .ne 12, 3) := by decide +kernel
theorem dL_act_448 : decode cL_act 448 = .ok (.iload 5, 2) := by decide +kernel
theorem dL_act_450 : decode cL_act 450 = .ok (.ifCond .eq 7, 3) := by decide +kernel
theorem dL_act_453 : decode cL_act 453 = .ok (.iconst 1, 1) := by decide +kernel
theorem dL_act_454 : decode cL_act 454 = .ok (.goto 4, 3) := by decide +kernel
theorem dL_act_457 : decode cL_act 457 = .ok (.iconst 0, 1) := by decide +kernel
theorem dL_act_458 : decode cL_act 458 = .ok (.ireturn, 1) := by decide +kernel
theorem dL_act_459 : decode cL_act 459 = .ok (.iconst 1, 1) := by decide +kernel
theorem dL_act_460 : decode cL_act 460 = .ok (.iload_n 2, 1) := by decide +kernel
theorem dL_act_461 : decode cL_act 461 = .ok (.iconst 4, 1) := by decide +kernel
theorem dL_act_462 : decode cL_act 462 = .ok (.ishr, 1) := by decide +kernel
theorem dL_act_463 : decode cL_act 463 = .ok (.iload_n 2, 1) := by decide +kernel
theorem dL_act_464 : decode cL_act 464 = .ok (.bipush 8, 2) := by decide +kernel
theorem dL_act_466 : decode cL_act 466 = .ok (.ishr, 1) := by decide +kernel
theorem dL_act_467 : decode cL_act 467 = .ok (.iconst 2, 1) := by decide +kernel
theorem dL_act_468 : decode cL_act 468 = .ok (.invokestatic 15, 3) := by decide +kernel
theorem dL_act_471 : decode cL_act 471 = .ok (.ifCond .ne 9, 3) := by decide +kernel
theorem dL_act_474 : decode cL_act 474 = .ok (.sipush 200, 3) := by decide +kernel
theorem dL_act_477 : decode cL_act 477 = .ok (.goto 5, 3) := by decide +kernel
theorem dL_act_480 : decode cL_act 480 = .ok (.bipush 9, 2) := by decide +kernel
theorem dL_act_482 : decode cL_act 482 = .ok (.invokestatic 15, 3) := by decide +kernel
theorem dL_act_485 : decode cL_act 485 = .ok (.iadd, 1) := by decide +kernel
theorem dL_act_486 : decode cL_act 486 = .ok (.istore 6, 2) := by decide +kernel
theorem dL_act_488 : decode cL_act 488 = .ok (.aload_n 0, 1) := by decide +kernel
theorem dL_act_489 : decode cL_act 489 = .ok (.iload 6, 2) := by decide +kernel
theorem dL_act_491 : decode cL_act 491 = .ok (.invokevirtual 66, 3) := by decide +kernel
theorem dL_act_494 : decode cL_act 494 = .ok (.aload_n 1, 1) := by decide +kernel
theorem dL_act_495 : decode cL_act 495 = .ok (.iload 6, 2) := by decide +kernel
theorem dL_act_497 : decode cL_act 497 = .ok (.invokevirtual 69, 3) := by decide +kernel
theorem dL_act_500 : decode cL_act 500 = .ok (.if_icmp .ne 7, 3) := by decide +kernel
theorem dL_act_503 : decode cL_act 503 = .ok (.iconst 1, 1) := by decide +kernel
theorem dL_act_504 : decode cL_act 504 = .ok (.goto 4, 3) := by decide +kernel
theorem dL_act_507 : decode cL_act 507 = .ok (.iconst 0, 1) := by decide +kernel
theorem dL_act_508 : decode cL_act 508 = .ok (.ireturn, 1) := by decide +kernel
theorem dL_act_509 : decode cL_act 509 = .ok (.aload_n 1, 1) := by decide +kernel
theorem dL_act_510 : decode cL_act 510 = .ok (.getfield 22, 3) := by decide +kernel
theorem dL_act_513 : decode cL_act 513 = .ok (.arraylength, 1) := by decide +kernel
theorem dL_act_514 : decode cL_act 514 = .ok (.ifCond .ne 5, 3) := by decide +kernel
theorem dL_act_517 : decode cL_act 517 = .ok (.iconst 1, 1) := by decide +kernel
theorem dL_act_518 : decode cL_act 518 = .ok (.ireturn, 1) := by decide +kernel
theorem dL_act_519 : decode cL_act 519 = .ok (.iload_n 2, 1) := by decide +kernel
theorem dL_act_520 : decode cL_act 520 = .ok (.iconst 5, 1) := by decide +kernel
theorem dL_act_521 : decode cL_act 521 = .ok (.ishr, 1) := by decide +kernel
theorem dL_act_522 : decode cL_act 522 = .ok (.aload_n 1, 1) := by decide +kernel
theorem dL_act_523 : decode cL_act 523 = .ok (.getfield 22, 3) := by decide +kernel
theorem dL_act_526 : decode cL_act 526 = .ok (.arraylength, 1) := by decide +kernel
theorem dL_act_527 : decode cL_act 527 = .ok (.invokestatic 15, 3) := by decide +kernel
theorem dL_act_530 : decode cL_act 530 = .ok (.istore 6, 2) := by decide +kernel
theorem dL_act_532 : decode cL_act 532 = .ok (.aload_n 1, 1) := by decide +kernel
theorem dL_act_533 : decode cL_act 533 = .ok (.aload_n 1, 1) := by decide +kernel
theorem dL_act_534 : decode cL_act 534 = .ok (.getfield 9, 3) := by decide +kernel
theorem dL_act_537 : decode cL_act 537 = .ok (.iload 6, 2) := by decide +kernel
theorem dL_act_539 : decode cL_act 539 = .ok (.invokevirtual 70, 3) := by decide +kernel
theorem dL_act_542 : decode cL_act 542 = .ok (.istore 5, 2) := by decide +kernel
theorem dL_act_544 : decode cL_act 544 = .ok (.iload 5, 2) := by decide +kernel
theorem dL_act_546 : decode cL_act 546 = .ok (.ifCond .eq 12, 3) := by decide +kernel
theorem dL_act_549 : decode cL_act 549 = .ok (.aload_n 1, 1) := by decide +kernel
theorem dL_act_550 : decode cL_act 550 = .ok (.iload 6, 2) := by decide +kernel
theorem dL_act_552 : decode cL_act 552 = .ok (.invokevirtual 74, 3) := by decide +kernel
theorem dL_act_555 : decode cL_act 555 = .ok (.goto 4, 3) := by decide +kernel
theorem dL_act_558 : decode cL_act 558 = .ok (.iconst 0, 1) := by decide +kernel
theorem dL_act_559 : decode cL_act 559 = .ok (.istore 7, 2) := by decide +kernel
theorem dL_act_561 : decode cL_act 561 = .ok (.iload 5, 2) := by decide +kernel
theorem dL_act_563 : decode cL_act 563 = .ok (.ifCond .eq 20, 3) := by decide +kernel
theorem dL_act_566 : decode cL_act 566 = .ok (.aload_n 1, 1) := by decide +kernel
theorem dL_act_567 : decode cL_act 567 = .ok (.aload_n 1, 1) := by decide +kernel
theorem dL_act_568 : decode cL_act 568 = .ok (.getfield 22, 3) := by decide +kernel
theorem dL_act_571 : decode cL_act 571 = .ok (.iload 6, 2) := by decide +kernel
theorem dL_act_573 : decode cL_act 573 = .ok (.aaload, 1) := by decide +kernel
theorem dL_act_574 : decode cL_act 574 = .ok (.invokevirtual 32, 3) := by decide +kernel
theorem dL_act_577 : decode cL_act 577 = .ok (.checkcast 21, 3) := by decide +kernel
theorem dL_act_580 : decode cL_act 580 = .ok (.putfield 9, 3) := by decide +kernel
theorem dL_act_583 : decode cL_act 583 = .ok (.aload_n 1, 1) := by decide +kernel
theorem dL_act_584 : decode cL_act 584 = .ok (.dup, 1) := by decide +kernel
theorem dL_act_585 : decode cL_act 585 = .ok (.getfield 43, 3) := by decide +kernel
theorem dL_act_588 : decode cL_act 588 = .ok (.iload 7, 2) := by decide +kernel
theorem dL_act_590 : decode cL_act 590 = .ok (.iadd, 1) := by decide +kernel
theorem dL_act_591 : decode cL_act 591 = .ok (.putfield 43, 3) := by decide +kernel
theorem dL_act_594 : decode cL_act 594 = .ok (.aload_n 0, 1) := by decide +kernel
theorem dL_act_595 : decode cL_act 595 = .ok (.iload 6, 2) := by decide +kernel
theorem dL_act_597 : decode cL_act 597 = .ok (.invokevirtual 77, 3) := by decide +kernel
theorem dL_act_600 : decode cL_act 600 = .ok (.iload 7, 2) := by decide +kernel
theorem dL_act_602 : decode cL_act 602 = .ok (.if_icmp .ne 12, 3) := by decide +kernel
theorem dL_act_605 : decode cL_act 605 = .ok (.iload 5, 2) := by decide +kernel
theorem dL_act_607 : decode cL_act 607 = .ok (.ifCond .eq 7, 3) := by decide +kernel
theorem dL_act_610 : decode cL_act 610 = .ok (.iconst 1, 1) := by decide +kernel
theorem dL_act_611 : decode cL_act 611 = .ok (.goto 4, 3) := by decide +kernel
theorem dL_act_614 : decode cL_act 614 = .ok (.iconst 0, 1) := by decide +kernel
theorem dL_act_615 : decode cL_act 615 = .ok (.ireturn, 1) := by decide +kernel
theorem dL_act_616 : decode cL_act 616 = .ok (.astore 6, 2) := by decide +kernel
theorem dL_act_618 : decode cL_act 618 = .ok (.iload 5, 2) := by decide +kernel
theorem dL_act_620 : decode cL_act 620 = .ok (.ifCond .ne 7, 3) := by decide +kernel
theorem dL_act_623 : decode cL_act 623 = .ok (.iconst 1, 1) := by decide +kernel
theorem dL_act_624 : decode cL_act 624 = .ok (.goto 4, 3) := by decide +kernel
theorem dL_act_627 : decode cL_act 627 = .ok (.iconst 0, 1) := by decide +kernel
theorem dL_act_628 : decode cL_act 628 = .ok (.ireturn, 1) := by decide +kernel
set_option maxRecDepth 20000 in
theorem ggL_build_X3_init : GoodIn wsL_build wsX3_init := goodIn_r _ [14, 15, 16, 17, 4, 18, 19, 20, 248, 249, 250] (by decide +kernel) (by decide +kernel)
set_option maxRecDepth 20000 in
theorem gL_build_X3_init_n82 : GoodIn wsL_build (wsX3_init) := ggL_build_X3_init
set_option maxRecDepth 20000 in
theorem ggL_build_L_cell : GoodIn wsL_build wsL_cell := goodIn_r _ [24, 25] (by decide +kernel) (by decide +kernel)
set_option maxRecDepth 20000 in
theorem gL_build_L_cell : GoodIn wsL_build (va_wsS RL 83 yL_cell wsL_cell) := goodIn_app (goodIn_of _ (by decide +kernel)) ggL_build_L_cell
set_option maxRecDepth 20000 in
theorem ggL_build_L_below : GoodIn wsL_build wsL_below := goodIn_r _ [28, 29] (by decide +kernel) (by decide +kernel)
set_option maxRecDepth 20000 in
theorem gL_build_L_below : GoodIn wsL_build (va_wsS RL 15 yL_below wsL_below) := goodIn_app (goodIn_of _ (by decide +kernel)) ggL_build_L_below
set_option maxRecDepth 20000 in
theorem ggL_build_X2_lay : GoodIn wsL_build wsX2_lay := goodIn_ca (goodIn_r _ [34, 35, 36, 37, 38, 39, 40, 41, 42, 43, 44, 45, 46, 47, 48, 49, 50, 51, 52, 53, 251, 252, 253, 254, 255, 256, 257, 258] (by decide +kernel) (by decide +kernel)) (goodIn_sub (fun _ h => List.mem_cons_of_mem _ (List.mem_append_left _ (List.mem_append_left _ (List.mem_append_right _ h)))) (by decide +kernel))
set_option maxRecDepth 20000 in
theorem gL_build_X2_lay : GoodIn wsL_build (wsV RL 26 RX2 yX2_lay wsX2_lay) := goodIn_app (goodIn_of _ (by decide +kernel)) ggL_build_X2_lay
set_option maxRecDepth 20000 in
theorem ggL_build_X2_put : GoodIn wsL_build wsX2_put := goodIn_ca (goodIn_ca (goodIn_r _ [57, 37, 58, 59, 60, 33, 61, 62, 63, 39, 40, 41, 42, 43, 44, 64, 65, 66, 67, 35, 36, 68, 69, 70, 71, 49, 72, 51, 52, 53, 251, 252, 253, 254, 255, 256, 257, 258] (by decide +kernel) (by decide +kernel)) (goodIn_sub (fun _ h => List.mem_cons_of_mem _ (List.mem_append_left _ (List.mem_append_right _ h))) (by decide +kernel))) (goodIn_sub (fun _ h => List.mem_cons_of_mem _ (List.mem_append_left _ (List.mem_append_left _ (List.mem_append_right _ h)))) (by decide +kernel))
set_option maxRecDepth 20000 in
theorem gL_build_X2_put : GoodIn wsL_build (wsV RL 36 RX2 yX2_put wsX2_put) := goodIn_app (goodIn_of _ (by decide +kernel)) ggL_build_X2_put
set_option maxRecDepth 20000 in
theorem ggL_build_X3_with : GoodIn wsL_build wsX3_with := goodIn_r _ [75, 19] (by decide +kernel) (by decide +kernel)
set_option maxRecDepth 20000 in
theorem gL_build_X3_with : GoodIn wsL_build (va_wsS RL 59 yX3_with wsX3_with) := goodIn_app (goodIn_of _ (by decide +kernel)) ggL_build_X3_with
set_option maxRecDepth 20000 in
theorem ggL_build_X2_keep : GoodIn wsL_build wsX2_keep := goodIn_ca (goodIn_ca (goodIn_r _ [79, 80, 81, 38, 37, 82, 83, 84, 33, 85, 62, 63, 86, 87, 88, 89, 42, 90, 44, 49, 91, 69, 70, 71, 50, 51, 52, 53, 251, 252, 253, 254, 255, 256, 257, 258] (by decide +kernel) (by decide +kernel)) (goodIn_sub (fun _ h => List.mem_cons_of_mem _ (List.mem_append_right _ h)) (by decide +kernel))) (goodIn_sub (fun _ h => List.mem_cons_of_mem _ (List.mem_append_left _ (List.mem_append_right _ h))) (by decide +kernel))
set_option maxRecDepth 20000 in
theorem gL_build_X2_keep : GoodIn wsL_build (wsV RL 63 RX2 yX2_keep wsX2_keep) := goodIn_app (goodIn_of _ (by decide +kernel)) ggL_build_X2_keep
set_option maxRecDepth 20000 in
theorem ggL_build_L_act : GoodIn wsL_build wsL_act := goodIn_ca (goodIn_ca (goodIn_ca (goodIn_r _ [94, 95, 5, 4, 12, 6, 7, 8, 9, 10, 11, 96, 97, 98, 99, 100, 26, 27, 23, 28, 29, 30, 31, 32, 33, 34, 35, 36, 37, 38, 39, 40, 41, 42, 43, 44, 45, 46, 47, 48, 49, 50, 51, 52, 53, 54, 55, 56, 57, 58, 59, 60, 61, 62, 63, 64, 65, 66, 67, 68, 69, 70, 71, 72, 101, 102, 103, 3, 104, 105, 19, 106, 107, 108, 109, 110, 111, 112, 113, 114, 115, 116, 117, 118, 119, 120, 121, 122, 123, 91, 124, 125, 126, 127, 128, 129, 130, 131, 132, 133, 134, 135, 73, 74, 75, 76, 77, 78, 79, 80, 81, 82, 83, 84, 85, 86, 87, 88, 89, 90, 136, 137, 138, 139, 140, 141, 142, 143, 144, 145, 146, 147, 148, 149, 150, 151, 152, 153, 154, 155, 156, 18, 157, 158, 159, 160, 161, 162, 163, 164, 165, 166, 167, 168, 169, 170, 171, 172, 173, 174, 20, 175, 176, 177, 178, 179, 180, 181, 182, 183, 184, 185, 186, 187, 188, 189, 190, 191, 192, 193, 194, 195, 196, 197, 198, 199, 200, 201, 202, 203, 204, 205, 206, 207, 208, 209, 210, 211, 212, 213, 214, 215, 216, 217, 218, 219, 220, 221, 222, 223, 224, 225, 226, 227, 228, 229, 230, 231, 232, 233, 234, 235, 236, 237, 238, 239, 240, 241, 242, 243, 244, 245, 246, 247, 248, 249, 250, 251, 252, 253, 254, 255, 256, 257, 258, 259, 260] (by decide +kernel) (by decide +kernel)) (goodIn_sub (fun _ h => List.mem_cons_of_mem _ (List.mem_append_left _ (List.mem_append_left _ (List.mem_append_right _ h)))) (by decide +kernel))) (goodIn_sub (fun _ h => List.mem_cons_of_mem _ (List.mem_append_left _ (List.mem_append_right _ h))) (by decide +kernel))) (goodIn_sub (fun _ h => List.mem_cons_of_mem _ (List.mem_append_right _ h)) (by decide +kernel))
set_option maxRecDepth 20000 in
theorem gL_build_L_act : GoodIn wsL_build (va_wsS RL 87 yL_act wsL_act) := goodIn_app (goodIn_of _ (by decide +kernel)) ggL_build_L_act
theorem dL_build_0 : decode cL_build 0 = .ok (.new 10, 3) := by decide +kernel
theorem dL_build_3 : decode cL_build 3 = .ok (.dup, 1) := by decide +kernel
theorem dL_build_4 : decode cL_build 4 = .ok (.invokespecial 82, 3) := by decide +kernel
theorem dL_build_7 : decode cL_build 7 = .ok (.astore_n 2, 1) := by decide +kernel
theorem dL_build_8 : decode cL_build 8 = .ok (.iconst 3, 1) := by decide +kernel
theorem dL_build_9 : decode cL_build 9 = .ok (.aload_n 1, 1) := by decide +kernel
theorem dL_build_10 : decode cL_build 10 = .ok (.iconst 0, 1) := by decide +kernel
theorem dL_build_11 : decode cL_build 11 = .ok (.invokestatic 83, 3) := by decide +kernel
theorem dL_build_14 : decode cL_build 14 = .ok (.bipush 10, 2) := by decide +kernel
theorem dL_build_16 : decode cL_build 16 = .ok (.invokestatic 15, 3) := by decide +kernel
theorem dL_build_19 : decode cL_build 19 = .ok (.iadd, 1) := by decide +kernel
theorem dL_build_20 : decode cL_build 20 = .ok (.istore_n 3, 1) := by decide +kernel
theorem dL_build_21 : decode cL_build 21 = .ok (.aload_n 2, 1) := by decide +kernel
theorem dL_build_22 : decode cL_build 22 = .ok (.iload_n 3, 1) := by decide +kernel
theorem dL_build_23 : decode cL_build 23 = .ok (.newarray .int, 2) := by decide +kernel
theorem dL_build_25 : decode cL_build 25 = .ok (.putfield 9, 3) := by decide +kernel
theorem dL_build_28 : decode cL_build 28 = .ok (.aload_n 0, 1) := by decide +kernel
theorem dL_build_29 : decode cL_build 29 = .ok (.iload_n 3, 1) := by decide +kernel
theorem dL_build_30 : decode cL_build 30 = .ok (.invokevirtual 26, 3) := by decide +kernel
theorem dL_build_33 : decode cL_build 33 = .ok (.bipush 6, 2) := by decide +kernel
theorem dL_build_35 : decode cL_build 35 = .ok (.if_icmp .eq 5, 3) := by decide +kernel
theorem dL_build_38 : decode cL_build 38 = .ok (.aconst_null, 1) := by decide +kernel
theorem dL_build_39 : decode cL_build 39 = .ok (.areturn, 1) := by decide +kernel
theorem dL_build_40 : decode cL_build 40 = .ok (.iconst 0, 1) := by decide +kernel
theorem dL_build_41 : decode cL_build 41 = .ok (.istore 4, 2) := by decide +kernel
theorem dL_build_43 : decode cL_build 43 = .ok (.iload 4, 2) := by decide +kernel
theorem dL_build_45 : decode cL_build 45 = .ok (.iload_n 3, 1) := by decide +kernel
theorem dL_build_46 : decode cL_build 46 = .ok (.if_icmp .ge 72, 3) := by decide +kernel
theorem dL_build_49 : decode cL_build 49 = .ok (.aload_n 2, 1) := by decide +kernel
theorem dL_build_50 : decode cL_build 50 = .ok (.getfield 9, 3) := by decide +kernel
theorem dL_build_53 : decode cL_build 53 = .ok (.iload 4, 2) := by decide +kernel
theorem dL_build_55 : decode cL_build 55 = .ok (.aload_n 1, 1) := by decide +kernel
theorem dL_build_56 : decode cL_build 56 = .ok (.iconst 1, 1) := by decide +kernel
theorem dL_build_57 : decode cL_build 57 = .ok (.iload 4, 2) := by decide +kernel
theorem dL_build_59 : decode cL_build 59 = .ok (.iadd, 1) := by decide +kernel
theorem dL_build_60 : decode cL_build 60 = .ok (.invokestatic 83, 3) := by decide +kernel
theorem dL_build_63 : decode cL_build 63 = .ok (.iconst 3, 1) := by decide +kernel
theorem dL_build_64 : decode cL_build 64 = .ok (.ishr, 1) := by decide +kernel
theorem dL_build_65 : decode cL_build 65 = .ok (.aload_n 1, 1) := by decide +kernel
theorem dL_build_66 : decode cL_build 66 = .ok (.iconst 1, 1) := by decide +kernel
theorem dL_build_67 : decode cL_build 67 = .ok (.iload 4, 2) := by decide +kernel
theorem dL_build_69 : decode cL_build 69 = .ok (.iadd, 1) := by decide +kernel
theorem dL_build_70 : decode cL_build 70 = .ok (.invokestatic 83, 3) := by decide +kernel
theorem dL_build_73 : decode cL_build 73 = .ok (.iconst 3, 1) := by decide +kernel
theorem dL_build_74 : decode cL_build 74 = .ok (.invokestatic 15, 3) := by decide +kernel
theorem dL_build_77 : decode cL_build 77 = .ok (.ifCond .ne 9, 3) := by decide +kernel
theorem dL_build_80 : decode cL_build 80 = .ok (.sipush 200, 3) := by decide +kernel
theorem dL_build_83 : decode cL_build 83 = .ok (.goto 5, 3) := by decide +kernel
theorem dL_build_86 : decode cL_build 86 = .ok (.bipush 12, 2) := by decide +kernel
theorem dL_build_88 : decode cL_build 88 = .ok (.invokestatic 15, 3) := by decide +kernel
theorem dL_build_91 : decode cL_build 91 = .ok (.iconst 4, 1) := by decide +kernel
theorem dL_build_92 : decode cL_build 92 = .ok (.isub, 1) := by decide +kernel
theorem dL_build_93 : decode cL_build 93 = .ok (.iastore, 1) := by decide +kernel
theorem dL_build_94 : decode cL_build 94 = .ok (.aload_n 0, 1) := by decide +kernel
theorem dL_build_95 : decode cL_build 95 = .ok (.iload 4, 2) := by decide +kernel
theorem dL_build_97 : decode cL_build 97 = .ok (.aload_n 2, 1) := by decide +kernel
theorem dL_build_98 : decode cL_build 98 = .ok (.getfield 9, 3) := by decide +kernel
theorem dL_build_101 : decode cL_build 101 = .ok (.iload 4, 2) := by decide +kernel
theorem dL_build_103 : decode cL_build 103 = .ok (.iaload, 1) := by decide +kernel
theorem dL_build_104 : decode cL_build 104 = .ok (.invokevirtual 36, 3) := by decide +kernel
theorem dL_build_107 : decode cL_build 107 = .ok (.ifCond .eq 5, 3) := by decide +kernel
theorem dL_build_110 : decode cL_build 110 = .ok (.aconst_null, 1) := by decide +kernel
theorem dL_build_111 : decode cL_build 111 = .ok (.areturn, 1) := by decide +kernel
theorem dL_build_112 : decode cL_build 112 = .ok (.iinc 4 1, 3) := by decide +kernel
theorem dL_build_115 : decode cL_build 115 = .ok (.goto (-72), 3) := by decide +kernel
theorem dL_build_118 : decode cL_build 118 = .ok (.aload_n 2, 1) := by decide +kernel
theorem dL_build_119 : decode cL_build 119 = .ok (.aload_n 2, 1) := by decide +kernel
theorem dL_build_120 : decode cL_build 120 = .ok (.getfield 22, 3) := by decide +kernel
theorem dL_build_123 : decode cL_build 123 = .ok (.aload_n 2, 1) := by decide +kernel
theorem dL_build_124 : decode cL_build 124 = .ok (.getfield 9, 3) := by decide +kernel
theorem dL_build_127 : decode cL_build 127 = .ok (.invokevirtual 32, 3) := by decide +kernel
theorem dL_build_130 : decode cL_build 130 = .ok (.checkcast 21, 3) := by decide +kernel
theorem dL_build_133 : decode cL_build 133 = .ok (.invokestatic 59, 3) := by decide +kernel
theorem dL_build_136 : decode cL_build 136 = .ok (.putfield 22, 3) := by decide +kernel
theorem dL_build_139 : decode cL_build 139 = .ok (.aload_n 0, 1) := by decide +kernel
theorem dL_build_140 : decode cL_build 140 = .ok (.invokevirtual 63, 3) := by decide +kernel
theorem dL_build_143 : decode cL_build 143 = .ok (.ifCond .eq 5, 3) := by decide +kernel
theorem dL_build_146 : decode cL_build 146 = .ok (.aconst_null, 1) := by decide +kernel
theorem dL_build_147 : decode cL_build 147 = .ok (.areturn, 1) := by decide +kernel
theorem dL_build_148 : decode cL_build 148 = .ok (.iconst 0, 1) := by decide +kernel
theorem dL_build_149 : decode cL_build 149 = .ok (.istore 4, 2) := by decide +kernel
theorem dL_build_151 : decode cL_build 151 = .ok (.iload 4, 2) := by decide +kernel
theorem dL_build_153 : decode cL_build 153 = .ok (.bipush 8, 2) := by decide +kernel
theorem dL_build_155 : decode cL_build 155 = .ok (.if_icmp .ge 33, 3) := by decide +kernel
theorem dL_build_158 : decode cL_build 158 = .ok (.aload_n 0, 1) := by decide +kernel
theorem dL_build_159 : decode cL_build 159 = .ok (.aload_n 2, 1) := by decide +kernel
theorem dL_build_160 : decode cL_build 160 = .ok (.aload_n 1, 1) := by decide +kernel
theorem dL_build_161 : decode cL_build 161 = .ok (.iload 4, 2) := by decide +kernel
theorem dL_build_163 : decode cL_build 163 = .ok (.invokestatic 83, 3) := by decide +kernel
theorem dL_build_166 : decode cL_build 166 = .ok (.iconst 4, 1) := by decide +kernel
theorem dL_build_167 : decode cL_build 167 = .ok (.ishr, 1) := by decide +kernel
theorem dL_build_168 : decode cL_build 168 = .ok (.bipush 41, 2) := by decide +kernel
theorem dL_build_170 : decode cL_build 170 = .ok (.iload 4, 2) := by decide +kernel
theorem dL_build_172 : decode cL_build 172 = .ok (.imul, 1) := by decide +kernel
theorem dL_build_173 : decode cL_build 173 = .ok (.iadd, 1) := by decide +kernel
theorem dL_build_174 : decode cL_build 174 = .ok (.invokestatic 87, 3) := by decide +kernel
theorem dL_build_177 : decode cL_build 177 = .ok (.ifCond .ne 5, 3) := by decide +kernel
theorem dL_build_180 : decode cL_build 180 = .ok (.aconst_null, 1) := by decide +kernel
theorem dL_build_181 : decode cL_build 181 = .ok (.areturn, 1) := by decide +kernel
theorem dL_build_182 : decode cL_build 182 = .ok (.iinc 4 1, 3) := by decide +kernel
theorem dL_build_185 : decode cL_build 185 = .ok (.goto (-34), 3) := by decide +kernel
theorem dL_build_188 : decode cL_build 188 = .ok (.aload_n 2, 1) := by decide +kernel
theorem dL_build_189 : decode cL_build 189 = .ok (.areturn, 1) := by decide +kernel
set_option maxRecDepth 20000 in
theorem ggL_law_X2_init : GoodIn wsL_law wsX2_init := goodIn_r _ [22, 23, 24, 25, 26, 27, 28, 29, 30, 31, 32, 33, 34, 35, 36, 37, 38, 39, 40, 41, 42, 43, 44, 45, 46, 47, 48, 491, 492, 482, 483, 484, 485, 486, 487, 493, 494] (by decide +kernel) (by decide +kernel)
set_option maxRecDepth 20000 in
theorem gL_law_X2_init : GoodIn wsL_law (wsX2_init) := ggL_law_X2_init
set_option maxRecDepth 20000 in
theorem ggL_law_L_build : GoodIn wsL_law wsL_build := goodIn_ca (goodIn_ca (goodIn_ca (goodIn_r _ [52, 53, 54, 55, 41, 8, 56, 13, 14, 15, 16, 17, 18, 57, 58, 59, 24, 25, 60, 61, 62, 63, 64, 51, 65, 66, 67, 68, 69, 9, 70, 71, 72, 2, 73, 74, 75, 29, 31, 76, 77, 78, 28, 79, 43, 80, 81, 82, 83, 42, 84, 85, 86, 87, 88, 89, 90, 91, 92, 93, 94, 95, 96, 97, 98, 99, 100, 101, 102, 103, 104, 105, 106, 107, 108, 109, 110, 111, 112, 113, 114, 115, 116, 117, 118, 119, 30, 120, 121, 122, 123, 124, 125, 126, 127, 128, 19, 3, 4, 5, 6, 129, 130, 131, 132, 133, 134, 135, 136, 137, 32, 138, 139, 140, 141, 142, 143, 144, 145, 146, 147, 148, 149, 150, 151, 152, 153, 154, 155, 156, 157, 158, 159, 160, 161, 162, 163, 164, 165, 166, 167, 168, 169, 170, 171, 172, 173, 174, 175, 176, 177, 178, 179, 180, 181, 182, 183, 184, 185, 186, 187, 188, 189, 190, 191, 192, 193, 194, 195, 196, 197, 198, 199, 200, 201, 202, 203, 204, 205, 206, 207, 208, 209, 210, 211, 212, 213, 214, 215, 216, 217, 218, 219, 220, 221, 222, 223, 224, 225, 226, 227, 228, 229, 230, 231, 232, 233, 234, 235, 236, 237, 238, 239, 240, 241, 242, 243, 244, 37, 245, 246, 247, 36, 248, 48, 47, 249, 250, 251, 252, 253, 254, 255, 256, 257, 258, 259, 11, 12, 260, 261, 262, 263, 264, 265, 266, 267, 268, 488, 489, 490, 482, 483, 484, 485, 486, 487, 491, 492, 493, 494] (by decide +kernel) (by decide +kernel)) (goodIn_sub (fun _ h => List.mem_append_left _ (List.mem_append_left _ (List.mem_append_right _ h))) (by decide +kernel))) (goodIn_sub (fun _ h => List.mem_append_left _ (List.mem_append_right _ h)) (by decide +kernel))) (goodIn_sub (fun _ h => List.mem_append_right _ h) (by decide +kernel))
set_option maxRecDepth 20000 in
theorem gL_law_L_build : GoodIn wsL_law (va_wsS RL 92 yL_build wsL_build) := goodIn_app (goodIn_of _ (by decide +kernel)) ggL_law_L_build
set_option maxRecDepth 20000 in
theorem ggL_law_L_cell : GoodIn wsL_law wsL_cell := goodIn_r _ [65, 66] (by decide +kernel) (by decide +kernel)
set_option maxRecDepth 20000 in
theorem gL_law_L_cell : GoodIn wsL_law (va_wsS RL 83 yL_cell wsL_cell) := goodIn_app (goodIn_of _ (by decide +kernel)) ggL_law_L_cell
set_option maxRecDepth 20000 in
theorem ggL_law_L_act : GoodIn wsL_law wsL_act := goodIn_ca (goodIn_ca (goodIn_ca (goodIn_r _ [127, 128, 8, 41, 18, 56, 13, 14, 15, 16, 17, 19, 3, 4, 5, 6, 67, 68, 51, 69, 9, 70, 71, 72, 2, 73, 74, 75, 29, 31, 76, 77, 78, 28, 79, 43, 80, 81, 82, 83, 42, 84, 85, 86, 87, 88, 89, 90, 91, 92, 93, 94, 95, 96, 97, 98, 99, 100, 101, 102, 103, 104, 105, 106, 129, 130, 131, 55, 132, 133, 61, 134, 135, 136, 137, 32, 138, 139, 140, 141, 142, 143, 144, 145, 146, 147, 148, 149, 150, 124, 151, 152, 153, 154, 155, 156, 157, 158, 159, 160, 161, 162, 107, 108, 109, 110, 111, 112, 113, 114, 115, 116, 117, 118, 119, 30, 120, 121, 122, 123, 163, 164, 165, 166, 167, 168, 169, 170, 171, 172, 173, 174, 175, 176, 177, 178, 179, 180, 181, 182, 183, 60, 184, 185, 186, 187, 188, 189, 190, 191, 192, 193, 194, 195, 196, 197, 198, 199, 200, 201, 62, 202, 203, 204, 205, 206, 207, 208, 209, 210, 211, 212, 213, 214, 215, 216, 217, 218, 219, 220, 221, 222, 223, 224, 225, 226, 227, 228, 229, 230, 231, 232, 233, 234, 235, 236, 237, 238, 239, 240, 241, 242, 243, 244, 37, 245, 246, 247, 36, 248, 48, 47, 249, 250, 251, 252, 253, 254, 255, 256, 257, 258, 259, 11, 12, 260, 261, 262, 263, 264, 265, 266, 267, 268, 488, 489, 490, 482, 483, 484, 485, 486, 487, 491, 492, 493, 494] (by decide +kernel) (by decide +kernel)) (goodIn_sub (fun _ h => List.mem_append_left _ (List.mem_append_left _ (List.mem_append_right _ h))) (by decide +kernel))) (goodIn_sub (fun _ h => List.mem_append_left _ (List.mem_append_right _ h)) (by decide +kernel))) (goodIn_sub (fun _ h => List.mem_append_right _ h) (by decide +kernel))
set_option maxRecDepth 20000 in
theorem gL_law_L_act : GoodIn wsL_law (va_wsS RL 87 yL_act wsL_act) := goodIn_app (goodIn_of _ (by decide +kernel)) ggL_law_L_act
set_option maxRecDepth 20000 in
theorem ggL_law_X2_digest : GoodIn wsL_law wsX2_digest := goodIn_ca (goodIn_ca (goodIn_r _ [272, 273, 274, 275, 276, 2, 277, 29, 76, 77, 78, 28, 79, 43, 278, 279, 280, 281, 282, 283, 284, 285, 31, 286, 287, 288, 289, 32, 290, 291, 292, 293, 294, 230, 231, 232, 124, 103, 104, 105, 42, 295, 296, 297, 298, 299, 234, 235, 236, 237, 238, 239, 240, 300, 301, 302, 303, 304, 305, 306, 307, 308, 11, 5, 12, 309, 310, 311, 312, 313, 314, 315, 316, 317, 318, 319, 320, 321, 322, 176, 177, 178, 151, 152, 153, 154, 323, 324, 325, 326, 327, 172, 173, 174, 175, 328, 329, 330, 331, 332, 333, 334, 335, 336, 337, 338, 339, 138, 4, 6, 340, 341, 342, 343, 116, 117, 118, 119, 96, 97, 30, 225, 226, 227, 228, 229, 233, 344, 345, 346, 347, 241, 242, 243, 244, 37, 245, 246, 247, 36, 248, 48, 47, 249, 250, 251, 252, 253, 254, 255, 256, 257, 258, 259, 260, 261, 262, 263, 264, 265, 266, 267, 268, 348, 349, 350, 351, 352, 353, 354, 355, 33, 120, 121, 122, 123, 84, 85, 86, 87, 167, 168, 169, 170, 171, 179, 144, 145, 146, 147, 148, 149, 150, 356, 357, 358, 359, 360, 361, 362, 363, 364, 365, 366, 367, 368, 143, 369, 370, 371, 372, 98, 99, 100, 101, 74, 75, 373, 374, 375, 376, 106, 377, 378, 379, 380, 102, 381, 382, 383, 384, 385, 386, 387, 388, 482, 483, 484, 485, 486, 487, 491, 492, 493, 494] (by decide +kernel) (by decide +kernel)) (goodIn_sub (fun _ h => List.mem_append_left _ (List.mem_append_right _ h)) (by decide +kernel))) (goodIn_sub (fun _ h => List.mem_append_left _ (List.mem_append_left _ (List.mem_append_right _ h))) (by decide +kernel))
set_option maxRecDepth 20000 in
theorem gL_law_X2_digest : GoodIn wsL_law (wsV RL 96 RX2 yX2_digest wsX2_digest) := goodIn_app (goodIn_of _ (by decide +kernel)) ggL_law_X2_digest
set_option maxRecDepth 20000 in
theorem ggL_law_X2_places : GoodIn wsL_law wsX2_places := goodIn_r _ [277, 29, 76, 77, 78, 28, 79, 43, 482, 483, 484, 485, 486, 487, 491, 492] (by decide +kernel) (by decide +kernel)
set_option maxRecDepth 20000 in
theorem gL_law_X2_places : GoodIn wsL_law (wsV RL 100 RX2 yX2_places wsX2_places) := goodIn_app (goodIn_of _ (by decide +kernel)) ggL_law_X2_places
set_option maxRecDepth 20000 in
theorem ggL_law_X2_targets : GoodIn wsL_law wsX2_targets := goodIn_r _ [285, 31, 482, 483, 484, 485, 486, 487] (by decide +kernel) (by decide +kernel)
set_option maxRecDepth 20000 in
theorem gL_law_X2_targets : GoodIn wsL_law (wsV RL 103 RX2 yX2_targets wsX2_targets) := goodIn_app (goodIn_of _ (by decide +kernel)) ggL_law_X2_targets
set_option maxRecDepth 20000 in
theorem ggL_law_X2_tilt : GoodIn wsL_law wsX2_tilt := goodIn_ca (goodIn_r _ [394, 29, 92, 93, 94, 2, 95, 96, 97, 76, 77, 78, 28, 79, 43, 332, 333, 334, 335, 151, 152, 153, 154, 124, 103, 104, 105, 42, 482, 483, 484, 485, 486, 487, 491, 492] (by decide +kernel) (by decide +kernel)) (goodIn_sub (fun _ h => List.mem_append_left _ (List.mem_append_right _ h)) (by decide +kernel))
set_option maxRecDepth 20000 in
theorem gL_law_X2_tilt : GoodIn wsL_law (wsV RL 105 RX2 yX2_tilt wsX2_tilt) := goodIn_app (goodIn_of _ (by decide +kernel)) ggL_law_X2_tilt
set_option maxRecDepth 20000 in
theorem ggL_law_X2_isSteep : GoodIn wsL_law wsX2_isSteep := goodIn_ca (goodIn_r _ [398, 29, 92, 93, 94, 2, 95, 96, 97, 76, 77, 78, 28, 79, 43, 322, 176, 177, 178, 124, 103, 104, 105, 42, 151, 152, 153, 154, 482, 483, 484, 485, 486, 487, 491, 492] (by decide +kernel) (by decide +kernel)) (goodIn_sub (fun _ h => List.mem_append_left _ (List.mem_append_right _ h)) (by decide +kernel))
set_option maxRecDepth 20000 in
theorem gL_law_X2_isSteep : GoodIn wsL_law (wsV RL 108 RX2 yX2_isSteep wsX2_isSteep) := goodIn_app (goodIn_of _ (by decide +kernel)) ggL_law_X2_isSteep
set_option maxRecDepth 20000 in
theorem ggL_law_X2_bestAxis : GoodIn wsL_law wsX2_bestAxis := goodIn_r _ [339, 29, 138, 4, 5, 6, 76, 77, 78, 28, 79, 43, 332, 333, 334, 335, 151, 152, 153, 154, 124, 103, 104, 105, 42, 482, 483, 484, 485, 486, 487, 491, 492] (by decide +kernel) (by decide +kernel)
set_option maxRecDepth 20000 in
theorem gL_law_X2_bestAxis : GoodIn wsL_law (wsV RL 112 RX2 yX2_bestAxis wsX2_bestAxis) := goodIn_app (goodIn_of _ (by decide +kernel)) ggL_law_X2_bestAxis
set_option maxRecDepth 20000 in
theorem ggL_law_X2_numberAt : GoodIn wsL_law wsX2_numberAt := goodIn_ca (goodIn_r _ [403, 29, 92, 93, 94, 2, 95, 96, 97, 76, 77, 78, 28, 79, 43, 102, 103, 104, 105, 42, 482, 483, 484, 485, 486, 487, 491, 492] (by decide +kernel) (by decide +kernel)) (goodIn_sub (fun _ h => List.mem_append_left _ (List.mem_append_right _ h)) (by decide +kernel))
set_option maxRecDepth 20000 in
theorem gL_law_X2_numberAt : GoodIn wsL_law (wsV RL 115 RX2 yX2_numberAt wsX2_numberAt) := goodIn_app (goodIn_of _ (by decide +kernel)) ggL_law_X2_numberAt
set_option maxRecDepth 20000 in
theorem ggL_law_X2_highest : GoodIn wsL_law wsX2_highest := goodIn_r _ [316, 29, 317, 310, 311, 28, 312, 43, 124, 103, 104, 105, 42, 482, 483, 484, 485, 486, 487, 491, 492] (by decide +kernel) (by decide +kernel)
set_option maxRecDepth 20000 in
theorem gL_law_X2_highest : GoodIn wsL_law (wsV RL 118 RX2 yX2_highest wsX2_highest) := goodIn_app (goodIn_of _ (by decide +kernel)) ggL_law_X2_highest
set_option maxRecDepth 20000 in
theorem ggL_law_X2_spread : GoodIn wsL_law wsX2_spread := goodIn_r _ [303, 29, 304, 305, 306, 28, 307, 43, 308, 11, 5, 12, 124, 103, 104, 105, 42, 309, 310, 311, 312, 482, 483, 484, 485, 486, 487, 491, 492] (by decide +kernel) (by decide +kernel)
set_option maxRecDepth 20000 in
theorem gL_law_X2_spread : GoodIn wsL_law (wsV RL 121 RX2 yX2_spread wsX2_spread) := goodIn_app (goodIn_of _ (by decide +kernel)) ggL_law_X2_spread
set_option maxRecDepth 20000 in
theorem ggL_law_X2_nextToTip : GoodIn wsL_law wsX2_nextToTip := goodIn_r _ [326, 29, 327, 172, 173, 28, 174, 43, 175, 176, 177, 178, 124, 103, 104, 105, 42, 151, 152, 153, 154, 482, 483, 484, 485, 486, 487, 491, 492] (by decide +kernel) (by decide +kernel)
set_option maxRecDepth 20000 in
theorem gL_law_X2_nextToTip : GoodIn wsL_law (wsV RL 124 RX2 yX2_nextToTip wsX2_nextToTip) := goodIn_app (goodIn_of _ (by decide +kernel)) ggL_law_X2_nextToTip
set_option maxRecDepth 20000 in
theorem ggL_law_X2_levelAxes : GoodIn wsL_law wsX2_levelAxes := goodIn_r _ [331, 29, 76, 77, 78, 28, 79, 43, 332, 333, 334, 335, 151, 152, 153, 154, 124, 103, 104, 105, 42, 482, 483, 484, 485, 486, 487, 491, 492] (by decide +kernel) (by decide +kernel)
set_option maxRecDepth 20000 in
theorem gL_law_X2_levelAxes : GoodIn wsL_law (wsV RL 127 RX2 yX2_levelAxes wsX2_levelAxes) := goodIn_app (goodIn_of _ (by decide +kernel)) ggL_law_X2_levelAxes
set_option maxRecDepth 20000 in
theorem ggL_law_X2_steepPlaces : GoodIn wsL_law wsX2_steepPlaces := goodIn_r _ [321, 29, 76, 77, 78, 28, 79, 43, 322, 176, 177, 178, 124, 103, 104, 105, 42, 151, 152, 153, 154, 482, 483, 484, 485, 486, 487, 491, 492] (by decide +kernel) (by decide +kernel)
set_option maxRecDepth 20000 in
theorem gL_law_X2_steepPlaces : GoodIn wsL_law (wsV RL 130 RX2 yX2_steepPlaces wsX2_steepPlaces) := goodIn_app (goodIn_of _ (by decide +kernel)) ggL_law_X2_steepPlaces
set_option maxRecDepth 20000 in
theorem ggL_law_X2_stepsToRest : GoodIn wsL_law wsX2_stepsToRest := goodIn_r _ [351, 352, 353, 354, 2, 355, 33, 29, 120, 121, 122, 28, 123, 43, 42, 124, 103, 104, 105, 84, 85, 86, 87, 167, 168, 169, 170, 171, 172, 173, 174, 175, 176, 177, 178, 151, 152, 153, 154, 179, 144, 145, 146, 147, 148, 149, 150, 327, 482, 483, 484, 485, 486, 487, 491, 492] (by decide +kernel) (by decide +kernel)
set_option maxRecDepth 20000 in
theorem gL_law_X2_stepsToRest : GoodIn wsL_law (wsV RL 133 RX2 yX2_stepsToRest wsX2_stepsToRest) := goodIn_app (goodIn_of _ (by decide +kernel)) ggL_law_X2_stepsToRest
set_option maxRecDepth 20000 in
theorem ggL_law_X2_canReach : GoodIn wsL_law wsX2_canReach := goodIn_ca (goodIn_r _ [413, 29, 116, 117, 118, 2, 119, 96, 97, 31, 30, 225, 226, 227, 28, 228, 229, 230, 231, 232, 43, 124, 103, 104, 105, 42, 233, 234, 235, 236, 237, 238, 239, 240, 482, 483, 484, 485, 486, 487, 491, 492] (by decide +kernel) (by decide +kernel)) (goodIn_sub (fun _ h => List.mem_append_left _ (List.mem_append_right _ h)) (by decide +kernel))
set_option maxRecDepth 20000 in
theorem gL_law_X2_canReach : GoodIn wsL_law (wsV RL 136 RX2 yX2_canReach wsX2_canReach) := goodIn_app (goodIn_of _ (by decide +kernel)) ggL_law_X2_canReach
set_option maxRecDepth 20000 in
theorem ggL_law_X2_differences : GoodIn wsL_law wsX2_differences := goodIn_ca (goodIn_r _ [417, 29, 116, 117, 118, 2, 119, 96, 97, 31, 30, 385, 386, 387, 28, 388, 43, 124, 103, 104, 105, 42, 482, 483, 484, 485, 486, 487, 491, 492] (by decide +kernel) (by decide +kernel)) (goodIn_sub (fun _ h => List.mem_append_left _ (List.mem_append_right _ h)) (by decide +kernel))
set_option maxRecDepth 20000 in
theorem gL_law_X2_differences : GoodIn wsL_law (wsV RL 139 RX2 yX2_differences wsX2_differences) := goodIn_app (goodIn_of _ (by decide +kernel)) ggL_law_X2_differences
set_option maxRecDepth 20000 in
theorem ggL_law_X2_fewestTips : GoodIn wsL_law wsX2_fewestTips := goodIn_ca (goodIn_r _ [421, 116, 117, 118, 2, 119, 96, 97, 31, 30, 241, 242, 243, 244, 29, 37, 225, 226, 227, 28, 228, 229, 230, 231, 232, 43, 124, 103, 104, 105, 42, 233, 234, 235, 236, 237, 238, 239, 240, 245, 246, 247, 36, 248, 48, 47, 249, 77, 78, 79, 250, 251, 252, 253, 254, 255, 256, 257, 258, 259, 11, 5, 12, 260, 261, 262, 263, 264, 265, 266, 267, 268, 4, 6, 482, 483, 484, 485, 486, 487, 491, 492, 493, 494] (by decide +kernel) (by decide +kernel)) (goodIn_sub (fun _ h => List.mem_append_left _ (List.mem_append_right _ h)) (by decide +kernel))
set_option maxRecDepth 20000 in
theorem gL_law_X2_fewestTips : GoodIn wsL_law (wsV RL 142 RX2 yX2_fewestTips wsX2_fewestTips) := goodIn_app (goodIn_of _ (by decide +kernel)) ggL_law_X2_fewestTips
set_option maxRecDepth 20000 in
theorem ggL_law_X2_nearestTarget : GoodIn wsL_law wsX2_nearestTarget := goodIn_ca (goodIn_r _ [347, 31, 116, 117, 118, 2, 119, 96, 97, 30, 241, 242, 243, 244, 29, 37, 225, 226, 227, 28, 228, 229, 230, 231, 232, 43, 124, 103, 104, 105, 42, 233, 234, 235, 236, 237, 238, 239, 240, 245, 246, 247, 36, 248, 48, 47, 249, 77, 78, 79, 250, 251, 252, 253, 254, 255, 256, 257, 258, 259, 11, 5, 12, 260, 261, 262, 263, 264, 265, 266, 267, 268, 4, 6, 482, 483, 484, 485, 486, 487, 491, 492, 493, 494] (by decide +kernel) (by decide +kernel)) (goodIn_sub (fun _ h => List.mem_append_left _ (List.mem_append_right _ h)) (by decide +kernel))
set_option maxRecDepth 20000 in
theorem gL_law_X2_nearestTarget : GoodIn wsL_law (wsV RL 145 RX2 yX2_nearestTarget wsX2_nearestTarget) := goodIn_app (goodIn_of _ (by decide +kernel)) ggL_law_X2_nearestTarget
set_option maxRecDepth 20000 in
theorem ggL_law_X2_tipsTo : GoodIn wsL_law wsX2_tipsTo := goodIn_ca (goodIn_ca (goodIn_r _ [426, 37, 29, 116, 117, 118, 2, 119, 96, 97, 31, 30, 92, 93, 94, 95, 76, 77, 78, 28, 79, 43, 221, 222, 223, 224, 114, 115, 225, 226, 227, 228, 229, 230, 231, 232, 124, 103, 104, 105, 42, 233, 234, 235, 236, 237, 238, 239, 240, 245, 246, 247, 36, 248, 48, 47, 249, 250, 251, 252, 253, 254, 427, 261, 262, 263, 482, 483, 484, 485, 486, 487, 491, 492, 493, 494] (by decide +kernel) (by decide +kernel)) (goodIn_sub (fun _ h => List.mem_append_left _ (List.mem_append_right _ h)) (by decide +kernel))) (goodIn_sub (fun _ h => List.mem_append_right _ h) (by decide +kernel))
set_option maxRecDepth 20000 in
theorem gL_law_X2_tipsTo : GoodIn wsL_law (wsV RL 150 RX2 yX2_tipsTo wsX2_tipsTo) := goodIn_app (goodIn_of _ (by decide +kernel)) ggL_law_X2_tipsTo
set_option maxRecDepth 20000 in
theorem ggL_law_X3_tipped : GoodIn wsL_law wsX3_tipped := goodIn_r _ [132, 133, 14, 15, 16, 17, 61] (by decide +kernel) (by decide +kernel)
set_option maxRecDepth 20000 in
theorem gL_law_X3_tipped : GoodIn wsL_law (wsV RL 39 RX3 yX3_tipped wsX3_tipped) := goodIn_app (goodIn_of _ (by decide +kernel)) ggL_law_X3_tipped
set_option maxRecDepth 20000 in
theorem ggL_law_X2_numberIn : GoodIn wsL_law wsX2_numberIn := goodIn_ca (goodIn_r _ [431, 116, 117, 118, 2, 119, 96, 97, 31, 30, 92, 93, 94, 95, 29, 76, 77, 78, 28, 79, 43, 102, 103, 104, 105, 42, 482, 483, 484, 485, 486, 487, 491, 492] (by decide +kernel) (by decide +kernel)) (goodIn_sub (fun _ h => List.mem_append_left _ (List.mem_append_right _ h)) (by decide +kernel))
set_option maxRecDepth 20000 in
theorem gL_law_X2_numberIn : GoodIn wsL_law (wsV RL 156 RX2 yX2_numberIn wsX2_numberIn) := goodIn_app (goodIn_of _ (by decide +kernel)) ggL_law_X2_numberIn
set_option maxRecDepth 20000 in
theorem ggL_law_X2_reachable : GoodIn wsL_law wsX2_reachable := goodIn_ca (goodIn_r _ [343, 31, 29, 116, 117, 118, 2, 119, 96, 97, 30, 225, 226, 227, 28, 228, 229, 230, 231, 232, 43, 124, 103, 104, 105, 42, 233, 234, 235, 236, 237, 238, 239, 240, 482, 483, 484, 485, 486, 487, 491, 492] (by decide +kernel) (by decide +kernel)) (goodIn_sub (fun _ h => List.mem_append_left _ (List.mem_append_right _ h)) (by decide +kernel))
set_option maxRecDepth 20000 in
theorem gL_law_X2_reachable : GoodIn wsL_law (wsV RL 159 RX2 yX2_reachable wsX2_reachable) := goodIn_app (goodIn_of _ (by decide +kernel)) ggL_law_X2_reachable
set_option maxRecDepth 20000 in
theorem ggL_law_X2_bestPlace : GoodIn wsL_law wsX2_bestPlace := goodIn_r _ [363, 29, 364, 11, 5, 12, 304, 305, 306, 28, 307, 43, 308, 124, 103, 104, 105, 42, 309, 310, 311, 312, 76, 77, 78, 79, 365, 366, 367, 2, 368, 33, 120, 121, 122, 123, 84, 85, 86, 87, 143, 144, 145, 146, 147, 148, 149, 150, 151, 152, 153, 154, 482, 483, 484, 485, 486, 487, 491, 492] (by decide +kernel) (by decide +kernel)
set_option maxRecDepth 20000 in
theorem gL_law_X2_bestPlace : GoodIn wsL_law (wsV RL 162 RX2 yX2_bestPlace wsX2_bestPlace) := goodIn_app (goodIn_of _ (by decide +kernel)) ggL_law_X2_bestPlace
set_option maxRecDepth 20000 in
theorem ggL_law_L_below : GoodIn wsL_law wsL_below := goodIn_r _ [69, 9] (by decide +kernel) (by decide +kernel)
set_option maxRecDepth 20000 in
theorem gL_law_L_below : GoodIn wsL_law (va_wsS RL 15 yL_below wsL_below) := goodIn_app (goodIn_of _ (by decide +kernel)) ggL_law_L_below
set_option maxRecDepth 20000 in
theorem ggL_law_X2_spreadWith : GoodIn wsL_law wsX2_spreadWith := goodIn_ca (goodIn_ca (goodIn_r _ [437, 92, 93, 94, 2, 95, 96, 97, 29, 76, 77, 78, 28, 79, 43, 139, 140, 141, 142, 74, 75, 365, 366, 367, 368, 33, 120, 121, 122, 123, 42, 124, 103, 104, 105, 84, 85, 86, 87, 143, 144, 145, 146, 147, 148, 149, 150, 151, 152, 153, 154, 304, 305, 306, 307, 308, 11, 5, 12, 309, 310, 311, 312, 482, 483, 484, 485, 486, 487, 491, 492] (by decide +kernel) (by decide +kernel)) (goodIn_sub (fun _ h => List.mem_append_left _ (List.mem_append_right _ h)) (by decide +kernel))) (goodIn_sub (fun _ h => List.mem_append_left _ (List.mem_append_left _ (List.mem_append_right _ h))) (by decide +kernel))
set_option maxRecDepth 20000 in
theorem gL_law_X2_spreadWith : GoodIn wsL_law (wsV RL 165 RX2 yX2_spreadWith wsX2_spreadWith) := goodIn_app (goodIn_of _ (by decide +kernel)) ggL_law_X2_spreadWith
set_option maxRecDepth 20000 in
theorem ggL_law_X2_placeFor : GoodIn wsL_law wsX2_placeFor := goodIn_ca (goodIn_ca (goodIn_r _ [372, 31, 98, 99, 100, 2, 101, 74, 75, 116, 117, 118, 119, 96, 97, 30, 373, 374, 375, 376, 29, 33, 76, 77, 78, 28, 79, 43, 120, 121, 122, 123, 42, 124, 103, 104, 105, 84, 85, 86, 87, 106, 225, 226, 227, 228, 229, 230, 231, 232, 233, 234, 235, 236, 237, 238, 239, 240, 482, 483, 484, 485, 486, 487, 491, 492] (by decide +kernel) (by decide +kernel)) (goodIn_sub (fun _ h => List.mem_append_left _ (List.mem_append_left _ (List.mem_append_right _ h))) (by decide +kernel))) (goodIn_sub (fun _ h => List.mem_append_left _ (List.mem_append_right _ h)) (by decide +kernel))
set_option maxRecDepth 20000 in
theorem gL_law_X2_placeFor : GoodIn wsL_law (wsV RL 168 RX2 yX2_placeFor wsX2_placeFor) := goodIn_app (goodIn_of _ (by decide +kernel)) ggL_law_X2_placeFor
set_option maxRecDepth 20000 in
theorem ggL_law_X3_can : GoodIn wsL_law wsX3_can := goodIn_r _ [201, 62, 202, 203, 55, 204, 205, 206, 207, 488, 489, 490] (by decide +kernel) (by decide +kernel)
set_option maxRecDepth 20000 in
theorem gL_law_X3_can : GoodIn wsL_law (wsV RL 70 RX3 yX3_can wsX3_can) := goodIn_app (goodIn_of _ (by decide +kernel)) ggL_law_X3_can
set_option maxRecDepth 20000 in
theorem ggL_law_X2_sum : GoodIn wsL_law wsX2_sum := goodIn_r _ [293, 29, 294, 230, 231, 28, 232, 43, 124, 103, 104, 105, 42, 482, 483, 484, 485, 486, 487, 491, 492] (by decide +kernel) (by decide +kernel)
set_option maxRecDepth 20000 in
theorem gL_law_X2_sum : GoodIn wsL_law (wsV RL 171 RX2 yX2_sum wsX2_sum) := goodIn_app (goodIn_of _ (by decide +kernel)) ggL_law_X2_sum
set_option maxRecDepth 20000 in
theorem ggL_law_X2_moment : GoodIn wsL_law wsX2_moment := goodIn_r _ [298, 29, 299, 234, 235, 28, 236, 43, 124, 103, 104, 105, 42, 237, 238, 239, 240, 482, 483, 484, 485, 486, 487, 491, 492] (by decide +kernel) (by decide +kernel)
set_option maxRecDepth 20000 in
theorem gL_law_X2_moment : GoodIn wsL_law (wsV RL 174 RX2 yX2_moment wsX2_moment) := goodIn_app (goodIn_of _ (by decide +kernel)) ggL_law_X2_moment
set_option maxRecDepth 20000 in
theorem ggL_law_X2_spreadAtRest : GoodIn wsL_law wsX2_spreadAtRest := goodIn_r _ [359, 33, 352, 353, 354, 2, 355, 29, 120, 121, 122, 28, 123, 43, 42, 124, 103, 104, 105, 84, 85, 86, 87, 167, 168, 169, 170, 171, 172, 173, 174, 175, 176, 177, 178, 151, 152, 153, 154, 179, 144, 145, 146, 147, 148, 149, 150, 327, 304, 305, 306, 307, 308, 11, 5, 12, 309, 310, 311, 312, 482, 483, 484, 485, 486, 487, 491, 492] (by decide +kernel) (by decide +kernel)
set_option maxRecDepth 20000 in
theorem gL_law_X2_spreadAtRest : GoodIn wsL_law (wsV RL 177 RX2 yX2_spreadAtRest wsX2_spreadAtRest) := goodIn_app (goodIn_of _ (by decide +kernel)) ggL_law_X2_spreadAtRest
set_option maxRecDepth 20000 in
theorem ggL_law_X2_settle : GoodIn wsL_law wsX2_settle := goodIn_ca (goodIn_r _ [166, 74, 75, 29, 32, 167, 168, 169, 28, 170, 171, 172, 173, 174, 43, 175, 176, 177, 178, 124, 103, 104, 105, 42, 151, 152, 153, 154, 179, 144, 145, 146, 147, 148, 149, 150, 84, 85, 86, 87, 482, 483, 484, 485, 486, 487, 491, 492] (by decide +kernel) (by decide +kernel)) (goodIn_sub (fun _ h => List.mem_append_left _ (List.mem_append_left _ (List.mem_append_right _ h))) (by decide +kernel))
set_option maxRecDepth 20000 in
theorem gL_law_X2_settle : GoodIn wsL_law (wsV RL 66 RX2 yX2_settle wsX2_settle) := goodIn_app (goodIn_of _ (by decide +kernel)) ggL_law_X2_settle
set_option maxRecDepth 20000 in
theorem ggL_law_X3_settle : GoodIn wsL_law wsX3_settle := goodIn_r _ [183, 60, 184, 185, 186, 187, 55, 188, 189, 190, 191, 192, 193, 194, 195, 196, 197, 130, 131, 132, 133, 14, 15, 16, 17, 61, 488, 489, 490] (by decide +kernel) (by decide +kernel)
set_option maxRecDepth 20000 in
theorem gL_law_X3_settle : GoodIn wsL_law (wsV RL 69 RX3 yX3_settle wsX3_settle) := goodIn_app (goodIn_of _ (by decide +kernel)) ggL_law_X3_settle
set_option maxRecDepth 20000 in
theorem ggL_law_X2_tip : GoodIn wsL_law wsX2_tip := goodIn_ca (goodIn_ca (goodIn_r _ [137, 29, 32, 138, 4, 5, 6, 92, 93, 94, 2, 95, 96, 97, 76, 77, 78, 28, 79, 43, 139, 140, 141, 142, 74, 75, 143, 144, 145, 146, 147, 148, 149, 150, 124, 103, 104, 105, 42, 84, 85, 86, 87, 151, 152, 153, 154, 102, 482, 483, 484, 485, 486, 487, 491, 492] (by decide +kernel) (by decide +kernel)) (goodIn_sub (fun _ h => List.mem_append_left _ (List.mem_append_right _ h)) (by decide +kernel))) (goodIn_sub (fun _ h => List.mem_append_left _ (List.mem_append_left _ (List.mem_append_right _ h))) (by decide +kernel))
set_option maxRecDepth 20000 in
theorem gL_law_X2_tip : GoodIn wsL_law (wsV RL 52 RX2 yX2_tip wsX2_tip) := goodIn_app (goodIn_of _ (by decide +kernel)) ggL_law_X2_tip
set_option maxRecDepth 20000 in
theorem ggL_law_X3_isSame : GoodIn wsL_law wsX3_isSame := goodIn_ca (goodIn_r _ [445, 60, 212, 4, 5, 6, 62, 184, 446, 447, 448, 55, 449, 193, 194, 195, 196, 189, 190, 191, 192, 450, 401, 402, 2, 403, 29, 92, 93, 94, 95, 96, 97, 76, 77, 78, 28, 79, 43, 102, 103, 104, 105, 42, 451, 396, 397, 398, 322, 176, 177, 178, 124, 151, 152, 153, 154, 452, 392, 393, 394, 332, 333, 334, 335, 453, 429, 430, 431, 116, 117, 118, 119, 31, 30, 454, 199, 200, 201, 202, 203, 204, 205, 206, 207, 455, 415, 416, 417, 385, 386, 387, 388, 456, 411, 412, 413, 225, 226, 227, 228, 229, 230, 231, 232, 233, 234, 235, 236, 237, 238, 239, 240, 457, 275, 276, 277, 458, 283, 284, 285, 459, 287, 288, 289, 32, 460, 291, 292, 293, 294, 461, 296, 297, 298, 299, 462, 301, 302, 303, 304, 305, 306, 307, 308, 11, 12, 309, 310, 311, 312, 463, 464, 465, 466, 467, 468, 469, 470, 471, 472, 314, 315, 316, 317, 473, 319, 320, 321, 474, 324, 325, 326, 327, 172, 173, 174, 175, 185, 186, 187, 188, 475, 329, 330, 331, 476, 337, 338, 339, 138, 477, 341, 342, 343, 478, 479, 480, 481, 488, 489, 490, 482, 483, 484, 485, 486, 487, 491, 492] (by decide +kernel) (by decide +kernel)) (goodIn_sub (fun _ h => List.mem_append_left _ (List.mem_append_right _ h)) (by decide +kernel))
set_option maxRecDepth 20000 in
theorem gL_law_X3_isSame : GoodIn wsL_law (wsV RL 180 RX3 yX3_isSame wsX3_isSame) := goodIn_app (goodIn_of _ (by decide +kernel)) ggL_law_X3_isSame
theorem dL_law_0 : decode cL_law 0 = .ok (.new 27, 3) := by decide +kernel
theorem dL_law_3 : decode cL_law 3 = .ok (.dup, 1) := by decide +kernel
theorem dL_law_4 : decode cL_law 4 = .ok (.invokespecial 91, 3) := by decide +kernel
theorem dL_law_7 : decode cL_law 7 = .ok (.astore_n 1, 1) := by decide +kernel
theorem dL_law_8 : decode cL_law 8 = .ok (.aload_n 1, 1) := by decide +kernel
theorem dL_law_9 : decode cL_law 9 = .ok (.aload_n 0, 1) := by decide +kernel
theorem dL_law_10 : decode cL_law 10 = .ok (.invokestatic 92, 3) := by decide +kernel
theorem dL_law_13 : decode cL_law 13 = .ok (.astore_n 2, 1) := by decide +kernel
theorem dL_law_14 : decode cL_law 14 = .ok (.aload_n 2, 1) := by decide +kernel
theorem dL_law_15 : decode cL_law 15 = .ok (.ifnonnull 5, 3) := by decide +kernel
theorem dL_law_18 : decode cL_law 18 = .ok (.iconst 0, 1) := by decide +kernel
theorem dL_law_19 : decode cL_law 19 = .ok (.ireturn, 1) := by decide +kernel
theorem dL_law_20 : decode cL_law 20 = .ok (.iconst 0, 1) := by decide +kernel
theorem dL_law_21 : decode cL_law 21 = .ok (.istore_n 3, 1) := by decide +kernel
theorem dL_law_22 : decode cL_law 22 = .ok (.iload_n 3, 1) := by decide +kernel
theorem dL_law_23 : decode cL_law 23 = .ok (.bipush 7, 2) := by decide +kernel
theorem dL_law_25 : decode cL_law 25 = .ok (.if_icmp .ge 1200, 3) := by decide +kernel
theorem dL_law_28 : decode cL_law 28 = .ok (.aload_n 0, 1) := by decide +kernel
theorem dL_law_29 : decode cL_law 29 = .ok (.iload_n 3, 1) := by decide +kernel
theorem dL_law_30 : decode cL_law 30 = .ok (.iconst 1, 1) := by decide +kernel
theorem dL_law_31 : decode cL_law 31 = .ok (.iadd, 1) := by decide +kernel
theorem dL_law_32 : decode cL_law 32 = .ok (.invokestatic 83, 3) := by decide +kernel
theorem dL_law_35 : decode cL_law 35 = .ok (.iconst 2, 1) := by decide +kernel
theorem dL_law_36 : decode cL_law 36 = .ok (.ishr, 1) := by decide +kernel
theorem dL_law_37 : decode cL_law 37 = .ok (.bipush 53, 2) := by decide +kernel
theorem dL_law_39 : decode cL_law 39 = .ok (.iload_n 3, 1) := by decide +kernel
theorem dL_law_40 : decode cL_law 40 = .ok (.imul, 1) := by decide +kernel
theorem dL_law_41 : decode cL_law 41 = .ok (.iadd, 1) := by decide +kernel
theorem dL_law_42 : decode cL_law 42 = .ok (.istore 4, 2) := by decide +kernel
theorem dL_law_44 : decode cL_law 44 = .ok (.iconst 0, 1) := by decide +kernel
theorem dL_law_45 : decode cL_law 45 = .ok (.istore 5, 2) := by decide +kernel
theorem dL_law_47 : decode cL_law 47 = .ok (.iload 5, 2) := by decide +kernel
theorem dL_law_49 : decode cL_law 49 = .ok (.iconst 3, 1) := by decide +kernel
theorem dL_law_50 : decode cL_law 50 = .ok (.if_icmp .ge 32, 3) := by decide +kernel
theorem dL_law_53 : decode cL_law 53 = .ok (.aload_n 1, 1) := by decide +kernel
theorem dL_law_54 : decode cL_law 54 = .ok (.aload_n 2, 1) := by decide +kernel
theorem dL_law_55 : decode cL_law 55 = .ok (.iload 4, 2) := by decide +kernel
theorem dL_law_57 : decode cL_law 57 = .ok (.iconst 3, 1) := by decide +kernel
theorem dL_law_58 : decode cL_law 58 = .ok (.iload 5, 2) := by decide +kernel
theorem dL_law_60 : decode cL_law 60 = .ok (.imul, 1) := by decide +kernel
theorem dL_law_61 : decode cL_law 61 = .ok (.ishr, 1) := by decide +kernel
theorem dL_law_62 : decode cL_law 62 = .ok (.bipush 29, 2) := by decide +kernel
theorem dL_law_64 : decode cL_law 64 = .ok (.iload 5, 2) := by decide +kernel
theorem dL_law_66 : decode cL_law 66 = .ok (.imul, 1) := by decide +kernel
theorem dL_law_67 : decode cL_law 67 = .ok (.iadd, 1) := by decide +kernel
theorem dL_law_68 : decode cL_law 68 = .ok (.invokestatic 87, 3) := by decide +kernel
theorem dL_law_71 : decode cL_law 71 = .ok (.ifCond .ne 5, 3) := by decide +kernel
theorem dL_law_74 : decode cL_law 74 = .ok (.iconst 0, 1) := by decide +kernel
theorem dL_law_75 : decode cL_law 75 = .ok (.ireturn, 1) := by decide +kernel
theorem dL_law_76 : decode cL_law 76 = .ok (.iinc 5 1, 3) := by decide +kernel
theorem dL_law_79 : decode cL_law 79 = .ok (.goto (-32), 3) := by decide +kernel
theorem dL_law_82 : decode cL_law 82 = .ok (.aload_n 1, 1) := by decide +kernel
theorem dL_law_83 : decode cL_law 83 = .ok (.invokevirtual 96, 3) := by decide +kernel
theorem dL_law_86 : decode cL_law 86 = .ok (.lstore 5, 2) := by decide +kernel
theorem dL_law_88 : decode cL_law 88 = .ok (.aload_n 1, 1) := by decide +kernel
theorem dL_law_89 : decode cL_law 89 = .ok (.invokevirtual 100, 3) := by decide +kernel
theorem dL_law_92 : decode cL_law 92 = .ok (.istore 7, 2) := by decide +kernel
theorem dL_law_94 : decode cL_law 94 = .ok (.aload_n 1, 1) := by decide +kernel
theorem dL_law_95 : decode cL_law 95 = .ok (.invokevirtual 103, 3) := by decide +kernel
theorem dL_law_98 : decode cL_law 98 = .ok (.istore 8, 2) := by decide +kernel
theorem dL_law_100 : decode cL_law 100 = .ok (.iconst 0, 1) := by decide +kernel
theorem dL_law_101 : decode cL_law 101 = .ok (.istore 9, 2) := by decide +kernel
theorem dL_law_103 : decode cL_law 103 = .ok (.iconst 0, 1) := by decide +kernel
theorem dL_law_104 : decode cL_law 104 = .ok (.istore 10, 2) := by decide +kernel
theorem dL_law_106 : decode cL_law 106 = .ok (.iconst 0, 1) := by decide +kernel
theorem dL_law_107 : decode cL_law 107 = .ok (.istore 11, 2) := by decide +kernel
theorem dL_law_109 : decode cL_law 109 = .ok (.iconst 0, 1) := by decide +kernel
theorem dL_law_110 : decode cL_law 110 = .ok (.istore 12, 2) := by decide +kernel
theorem dL_law_112 : decode cL_law 112 = .ok (.iload 12, 2) := by decide +kernel
theorem dL_law_114 : decode cL_law 114 = .ok (.iload 7, 2) := by decide +kernel
theorem dL_law_116 : decode cL_law 116 = .ok (.if_icmp .ge 140, 3) := by decide +kernel
theorem dL_law_119 : decode cL_law 119 = .ok (.iload 9, 2) := by decide +kernel
theorem dL_law_121 : decode cL_law 121 = .ok (.aload_n 1, 1) := by decide +kernel
theorem dL_law_122 : decode cL_law 122 = .ok (.iload 12, 2) := by decide +kernel
theorem dL_law_124 : decode cL_law 124 = .ok (.invokevirtual 105, 3) := by decide +kernel
theorem dL_law_127 : decode cL_law 127 = .ok (.iadd, 1) := by decide +kernel
theorem dL_law_128 : decode cL_law 128 = .ok (.istore 9, 2) := by decide +kernel
theorem dL_law_130 : decode cL_law 130 = .ok (.iload 10, 2) := by decide +kernel
theorem dL_law_132 : decode cL_law 132 = .ok (.aload_n 1, 1) := by decide +kernel
theorem dL_law_133 : decode cL_law 133 = .ok (.iload 12, 2) := by decide +kernel
theorem dL_law_135 : decode cL_law 135 = .ok (.invokevirtual 105, 3) := by decide +kernel
theorem dL_law_138 : decode cL_law 138 = .ok (.ifCond .ne 7, 3) := by decide +kernel
theorem dL_law_141 : decode cL_law 141 = .ok (.iconst 1, 1) := by decide +kernel
theorem dL_law_142 : decode cL_law 142 = .ok (.goto 4, 3) := by decide +kernel
theorem dL_law_145 : decode cL_law 145 = .ok (.iconst 0, 1) := by decide +kernel
theorem dL_law_146 : decode cL_law 146 = .ok (.iadd, 1) := by decide +kernel
theorem dL_law_147 : decode cL_law 147 = .ok (.istore 10, 2) := by decide +kernel
theorem dL_law_149 : decode cL_law 149 = .ok (.iload 11, 2) := by decide +kernel
theorem dL_law_151 : decode cL_law 151 = .ok (.aload_n 1, 1) := by decide +kernel
theorem dL_law_152 : decode cL_law 152 = .ok (.iload 12, 2) := by decide +kernel
theorem dL_law_154 : decode cL_law 154 = .ok (.invokevirtual 108, 3) := by decide +kernel
theorem dL_law_157 : decode cL_law 157 = .ok (.ifCond .eq 7, 3) := by decide +kernel
theorem dL_law_160 : decode cL_law 160 = .ok (.iconst 1, 1) := by decide +kernel
theorem dL_law_161 : decode cL_law 161 = .ok (.goto 4, 3) := by decide +kernel
theorem dL_law_164 : decode cL_law 164 = .ok (.iconst 0, 1) := by decide +kernel
theorem dL_law_165 : decode cL_law 165 = .ok (.iadd, 1) := by decide +kernel
theorem dL_law_166 : decode cL_law 166 = .ok (.istore 11, 2) := by decide +kernel
theorem dL_law_168 : decode cL_law 168 = .ok (.aload_n 1, 1) := by decide +kernel
theorem dL_law_169 : decode cL_law 169 = .ok (.iload 12, 2) := by decide +kernel
theorem dL_law_171 : decode cL_law 171 = .ok (.invokevirtual 105, 3) := by decide +kernel
theorem dL_law_174 : decode cL_law 174 = .ok (.invokestatic 47, 3) := by decide +kernel
theorem dL_law_177 : decode cL_law 177 = .ok (.aload_n 1, 1) := by decide +kernel
theorem dL_law_178 : decode cL_law 178 = .ok (.aload_n 1, 1) := by decide +kernel
theorem dL_law_179 : decode cL_law 179 = .ok (.invokevirtual 112, 3) := by decide +kernel
theorem dL_law_182 : decode cL_law 182 = .ok (.invokevirtual 105, 3) := by decide +kernel
theorem dL_law_185 : decode cL_law 185 = .ok (.invokestatic 47, 3) := by decide +kernel
theorem dL_law_188 : decode cL_law 188 = .ok (.if_icmp .lt 60, 3) := by decide +kernel
theorem dL_law_191 : decode cL_law 191 = .ok (.aload_n 1, 1) := by decide +kernel
theorem dL_law_192 : decode cL_law 192 = .ok (.iload 12, 2) := by decide +kernel
theorem dL_law_194 : decode cL_law 194 = .ok (.invokevirtual 115, 3) := by decide +kernel
theorem dL_law_197 : decode cL_law 197 = .ok (.aload_n 1, 1) := by decide +kernel
theorem dL_law_198 : decode cL_law 198 = .ok (.aload_n 1, 1) := by decide +kernel
theorem dL_law_199 : decode cL_law 199 = .ok (.invokevirtual 118, 3) := by decide +kernel
theorem dL_law_202 : decode cL_law 202 = .ok (.invokevirtual 115, 3) := by decide +kernel
theorem dL_law_205 : decode cL_law 205 = .ok (.if_icmp .gt 43, 3) := by decide +kernel
theorem dL_law_208 : decode cL_law 208 = .ok (.aload_n 1, 1) := by decide +kernel
theorem dL_law_209 : decode cL_law 209 = .ok (.iload 12, 2) := by decide +kernel
theorem dL_law_211 : decode cL_law 211 = .ok (.invokevirtual 115, 3) := by decide +kernel
theorem dL_law_214 : decode cL_law 214 = .ok (.aload_n 1, 1) := by decide +kernel
theorem dL_law_215 : decode cL_law 215 = .ok (.aload_n 1, 1) := by decide +kernel
theorem dL_law_216 : decode cL_law 216 = .ok (.invokevirtual 118, 3) := by decide +kernel
theorem dL_law_219 : decode cL_law 219 = .ok (.invokevirtual 115, 3) := by decide +kernel
theorem dL_law_222 : decode cL_law 222 = .ok (.aload_n 1, 1) := by decide +kernel
theorem dL_law_223 : decode cL_law 223 = .ok (.invokevirtual 121, 3) := by decide +kernel
theorem dL_law_226 : decode cL_law 226 = .ok (.isub, 1) := by decide +kernel
theorem dL_law_227 : decode cL_law 227 = .ok (.if_icmp .lt 21, 3) := by decide +kernel
theorem dL_law_230 : decode cL_law 230 = .ok (.aload_n 1, 1) := by decide +kernel
theorem dL_law_231 : decode cL_law 231 = .ok (.iload 12, 2) := by decide +kernel
theorem dL_law_233 : decode cL_law 233 = .ok (.invokevirtual 108, 3) := by decide +kernel
theorem dL_law_236 : decode cL_law 236 = .ok (.ifCond .eq 14, 3) := by decide +kernel
theorem dL_law_239 : decode cL_law 239 = .ok (.iload 12, 2) := by decide +kernel
theorem dL_law_241 : decode cL_law 241 = .ok (.aload_n 1, 1) := by decide +kernel
theorem dL_law_242 : decode cL_law 242 = .ok (.invokevirtual 124, 3) := by decide +kernel
theorem dL_law_245 : decode cL_law 245 = .ok (.if_icmp .ge 5, 3) := by decide +kernel
theorem dL_law_248 : decode cL_law 248 = .ok (.iconst 0, 1) := by decide +kernel
theorem dL_law_249 : decode cL_law 249 = .ok (.ireturn, 1) := by decide +kernel
theorem dL_law_250 : decode cL_law 250 = .ok (.iinc 12 1, 3) := by decide +kernel
theorem dL_law_253 : decode cL_law 253 = .ok (.goto (-141), 3) := by decide +kernel
theorem dL_law_256 : decode cL_law 256 = .ok (.iload 9, 2) := by decide +kernel
theorem dL_law_258 : decode cL_law 258 = .ok (.ifCond .ne 87, 3) := by decide +kernel
theorem dL_law_261 : decode cL_law 261 = .ok (.iload 10, 2) := by decide +kernel
theorem dL_law_263 : decode cL_law 263 = .ok (.aload_n 1, 1) := by decide +kernel
theorem dL_law_264 : decode cL_law 264 = .ok (.invokevirtual 127, 3) := by decide +kernel
theorem dL_law_267 : decode cL_law 267 = .ok (.if_icmp .ne 78, 3) := by decide +kernel
theorem dL_law_270 : decode cL_law 270 = .ok (.iload 11, 2) := by decide +kernel
theorem dL_law_272 : decode cL_law 272 = .ok (.aload_n 1, 1) := by decide +kernel
theorem dL_law_273 : decode cL_law 273 = .ok (.invokevirtual 130, 3) := by decide +kernel
theorem dL_law_276 : decode cL_law 276 = .ok (.if_icmp .ne 69, 3) := by decide +kernel
theorem dL_law_279 : decode cL_law 279 = .ok (.iload 11, 2) := by decide +kernel
theorem dL_law_281 : decode cL_law 281 = .ok (.ifCond .ne 7, 3) := by decide +kernel
theorem dL_law_284 : decode cL_law 284 = .ok (.iconst 1, 1) := by decide +kernel
theorem dL_law_285 : decode cL_law 285 = .ok (.goto 4, 3) := by decide +kernel
theorem dL_law_288 : decode cL_law 288 = .ok (.iconst 0, 1) := by decide +kernel
theorem dL_law_289 : decode cL_law 289 = .ok (.aload_n 1, 1) := by decide +kernel
theorem dL_law_290 : decode cL_law 290 = .ok (.invokevirtual 124, 3) := by decide +kernel
theorem dL_law_293 : decode cL_law 293 = .ok (.ifCond .ge 7, 3) := by decide +kernel
theorem dL_law_296 : decode cL_law 296 = .ok (.iconst 1, 1) := by decide +kernel
theorem dL_law_297 : decode cL_law 297 = .ok (.goto 4, 3) := by decide +kernel
theorem dL_law_300 : decode cL_law 300 = .ok (.iconst 0, 1) := by decide +kernel
theorem dL_law_301 : decode cL_law 301 = .ok (.if_icmp .ne 44, 3) := by decide +kernel
theorem dL_law_304 : decode cL_law 304 = .ok (.iload 11, 2) := by decide +kernel
theorem dL_law_306 : decode cL_law 306 = .ok (.ifCond .le 14, 3) := by decide +kernel
theorem dL_law_309 : decode cL_law 309 = .ok (.aload_n 1, 1) := by decide +kernel
theorem dL_law_310 : decode cL_law 310 = .ok (.aload_n 1, 1) := by decide +kernel
theorem dL_law_311 : decode cL_law 311 = .ok (.invokevirtual 124, 3) := by decide +kernel
theorem dL_law_314 : decode cL_law 314 = .ok (.invokevirtual 108, 3) := by decide +kernel
theorem dL_law_317 : decode cL_law 317 = .ok (.ifCond .eq 28, 3) := by decide +kernel
theorem dL_law_320 : decode cL_law 320 = .ok (.aload_n 1, 1) := by decide +kernel
theorem dL_law_321 : decode cL_law 321 = .ok (.invokevirtual 133, 3) := by decide +kernel
theorem dL_law_324 : decode cL_law 324 = .ok (.ifCond .ne 7, 3) := by decide +kernel
theorem dL_law_327 : decode cL_law 327 = .ok (.iconst 1, 1) := by decide +kernel
theorem dL_law_328 : decode cL_law 328 = .ok (.goto 4, 3) := by decide +kernel
theorem dL_law_331 : decode cL_law 331 = .ok (.iconst 0, 1) := by decide +kernel
theorem dL_law_332 : decode cL_law 332 = .ok (.iload 11, 2) := by decide +kernel
theorem dL_law_334 : decode cL_law 334 = .ok (.ifCond .ne 7, 3) := by decide +kernel
theorem dL_law_337 : decode cL_law 337 = .ok (.iconst 1, 1) := by decide +kernel
theorem dL_law_338 : decode cL_law 338 = .ok (.goto 4, 3) := by decide +kernel
theorem dL_law_341 : decode cL_law 341 = .ok (.iconst 0, 1) := by decide +kernel
theorem dL_law_342 : decode cL_law 342 = .ok (.if_icmp .eq 5, 3) := by decide +kernel
theorem dL_law_345 : decode cL_law 345 = .ok (.iconst 0, 1) := by decide +kernel
theorem dL_law_346 : decode cL_law 346 = .ok (.ireturn, 1) := by decide +kernel
theorem dL_law_347 : decode cL_law 347 = .ok (.iload 8, 2) := by decide +kernel
theorem dL_law_349 : decode cL_law 349 = .ok (.newarray .boolean, 2) := by decide +kernel
theorem dL_law_351 : decode cL_law 351 = .ok (.astore 12, 2) := by decide +kernel
theorem dL_law_353 : decode cL_law 353 = .ok (.iconst 0, 1) := by decide +kernel
theorem dL_law_354 : decode cL_law 354 = .ok (.istore 13, 2) := by decide +kernel
theorem dL_law_356 : decode cL_law 356 = .ok (.iconst 0, 1) := by decide +kernel
theorem dL_law_357 : decode cL_law 357 = .ok (.istore 14, 2) := by decide +kernel
theorem dL_law_359 : decode cL_law 359 = .ok (.iload 14, 2) := by decide +kernel
theorem dL_law_361 : decode cL_law 361 = .ok (.iload 8, 2) := by decide +kernel
theorem dL_law_363 : decode cL_law 363 = .ok (.if_icmp .ge 331, 3) := by decide +kernel
theorem dL_law_366 : decode cL_law 366 = .ok (.aload 12, 2) := by decide +kernel
theorem dL_law_368 : decode cL_law 368 = .ok (.iload 14, 2) := by decide +kernel
theorem dL_law_370 : decode cL_law 370 = .ok (.aload_n 1, 1) := by decide +kernel
theorem dL_law_371 : decode cL_law 371 = .ok (.iload 14, 2) := by decide +kernel
theorem dL_law_373 : decode cL_law 373 = .ok (.invokevirtual 136, 3) := by decide +kernel
theorem dL_law_376 : decode cL_law 376 = .ok (.bastore, 1) := by decide +kernel
theorem dL_law_377 : decode cL_law 377 = .ok (.aload_n 1, 1) := by decide +kernel
theorem dL_law_378 : decode cL_law 378 = .ok (.iload 14, 2) := by decide +kernel
theorem dL_law_380 : decode cL_law 380 = .ok (.invokevirtual 139, 3) := by decide +kernel
theorem dL_law_383 : decode cL_law 383 = .ok (.ifCond .lt 85, 3) := by decide +kernel
theorem dL_law_386 : decode cL_law 386 = .ok (.aload_n 1, 1) := by decide +kernel
theorem dL_law_387 : decode cL_law 387 = .ok (.iload 14, 2) := by decide +kernel
theorem dL_law_389 : decode cL_law 389 = .ok (.invokevirtual 139, 3) := by decide +kernel
theorem dL_law_392 : decode cL_law 392 = .ok (.iload 7, 2) := by decide +kernel
theorem dL_law_394 : decode cL_law 394 = .ok (.if_icmp .gt 74, 3) := by decide +kernel
theorem dL_law_397 : decode cL_law 397 = .ok (.aload_n 1, 1) := by decide +kernel
theorem dL_law_398 : decode cL_law 398 = .ok (.iload 14, 2) := by decide +kernel
theorem dL_law_400 : decode cL_law 400 = .ok (.invokevirtual 139, 3) := by decide +kernel
theorem dL_law_403 : decode cL_law 403 = .ok (.iconst 1, 1) := by decide +kernel
theorem dL_law_404 : decode cL_law 404 = .ok (.if_icmp .ne 11, 3) := by decide +kernel
theorem dL_law_407 : decode cL_law 407 = .ok (.aload 12, 2) := by decide +kernel
theorem dL_law_409 : decode cL_law 409 = .ok (.iload 14, 2) := by decide +kernel
theorem dL_law_411 : decode cL_law 411 = .ok (.baload, 1) := by decide +kernel
theorem dL_law_412 : decode cL_law 412 = .ok (.ifCond .ne 56, 3) := by decide +kernel
theorem dL_law_415 : decode cL_law 415 = .ok (.aload_n 1, 1) := by decide +kernel
theorem dL_law_416 : decode cL_law 416 = .ok (.iload 14, 2) := by decide +kernel
theorem dL_law_418 : decode cL_law 418 = .ok (.invokevirtual 142, 3) := by decide +kernel
theorem dL_law_421 : decode cL_law 421 = .ok (.ifCond .lt 7, 3) := by decide +kernel
theorem dL_law_424 : decode cL_law 424 = .ok (.iconst 1, 1) := by decide +kernel
theorem dL_law_425 : decode cL_law 425 = .ok (.goto 4, 3) := by decide +kernel
theorem dL_law_428 : decode cL_law 428 = .ok (.iconst 0, 1) := by decide +kernel
theorem dL_law_429 : decode cL_law 429 = .ok (.aload 12, 2) := by decide +kernel
theorem dL_law_431 : decode cL_law 431 = .ok (.iload 14, 2) := by decide +kernel
theorem dL_law_433 : decode cL_law 433 = .ok (.baload, 1) := by decide +kernel
theorem dL_law_434 : decode cL_law 434 = .ok (.if_icmp .ne 34, 3) := by decide +kernel
theorem dL_law_437 : decode cL_law 437 = .ok (.aload_n 1, 1) := by decide +kernel
theorem dL_law_438 : decode cL_law 438 = .ok (.iload 14, 2) := by decide +kernel
theorem dL_law_440 : decode cL_law 440 = .ok (.invokevirtual 142, 3) := by decide +kernel
theorem dL_law_443 : decode cL_law 443 = .ok (.ifCond .ne 7, 3) := by decide +kernel
theorem dL_law_446 : decode cL_law 446 = .ok (.iconst 1, 1) := by decide +kernel
theorem dL_law_447 : decode cL_law 447 = .ok (.goto 4, 3) := by decide +kernel
theorem dL_law_450 : decode cL_law 450 = .ok (.iconst 0, 1) := by decide +kernel
theorem dL_law_451 : decode cL_law 451 = .ok (.aload_n 1, 1) := by decide +kernel
theorem dL_law_452 : decode cL_law 452 = .ok (.iload 14, 2) := by decide +kernel
theorem dL_law_454 : decode cL_law 454 = .ok (.invokevirtual 139, 3) := by decide +kernel
theorem dL_law_457 : decode cL_law 457 = .ok (.ifCond .ne 7, 3) := by decide +kernel
theorem dL_law_460 : decode cL_law 460 = .ok (.iconst 1, 1) := by decide +kernel
theorem dL_law_461 : decode cL_law 461 = .ok (.goto 4, 3) := by decide +kernel
theorem dL_law_464 : decode cL_law 464 = .ok (.iconst 0, 1) := by decide +kernel
theorem dL_law_465 : decode cL_law 465 = .ok (.if_icmp .eq 5, 3) := by decide +kernel
theorem dL_law_468 : decode cL_law 468 = .ok (.iconst 0, 1) := by decide +kernel
theorem dL_law_469 : decode cL_law 469 = .ok (.ireturn, 1) := by decide +kernel
theorem dL_law_470 : decode cL_law 470 = .ok (.aload 12, 2) := by decide +kernel
theorem dL_law_472 : decode cL_law 472 = .ok (.iload 14, 2) := by decide +kernel
theorem dL_law_474 : decode cL_law 474 = .ok (.baload, 1) := by decide +kernel
theorem dL_law_475 : decode cL_law 475 = .ok (.ifCond .ne 6, 3) := by decide +kernel
theorem dL_law_478 : decode cL_law 478 = .ok (.goto 210, 3) := by decide +kernel
theorem dL_law_481 : decode cL_law 481 = .ok (.iinc 13 1, 3) := by decide +kernel
theorem dL_law_484 : decode cL_law 484 = .ok (.aload_n 1, 1) := by decide +kernel
theorem dL_law_485 : decode cL_law 485 = .ok (.invokevirtual 145, 3) := by decide +kernel
theorem dL_law_488 : decode cL_law 488 = .ok (.istore 15, 2) := by decide +kernel
theorem dL_law_490 : decode cL_law 490 = .ok (.iload 15, 2) := by decide +kernel
theorem dL_law_492 : decode cL_law 492 = .ok (.ifCond .lt 40, 3) := by decide +kernel
theorem dL_law_495 : decode cL_law 495 = .ok (.aload_n 1, 1) := by decide +kernel
theorem dL_law_496 : decode cL_law 496 = .ok (.iload 15, 2) := by decide +kernel
theorem dL_law_498 : decode cL_law 498 = .ok (.invokevirtual 142, 3) := by decide +kernel
theorem dL_law_501 : decode cL_law 501 = .ok (.aload_n 1, 1) := by decide +kernel
theorem dL_law_502 : decode cL_law 502 = .ok (.iload 14, 2) := by decide +kernel
theorem dL_law_504 : decode cL_law 504 = .ok (.invokevirtual 142, 3) := by decide +kernel
theorem dL_law_507 : decode cL_law 507 = .ok (.if_icmp .gt 25, 3) := by decide +kernel
theorem dL_law_510 : decode cL_law 510 = .ok (.aload_n 1, 1) := by decide +kernel
theorem dL_law_511 : decode cL_law 511 = .ok (.iload 15, 2) := by decide +kernel
theorem dL_law_513 : decode cL_law 513 = .ok (.invokevirtual 142, 3) := by decide +kernel
theorem dL_law_516 : decode cL_law 516 = .ok (.aload_n 1, 1) := by decide +kernel
theorem dL_law_517 : decode cL_law 517 = .ok (.iload 14, 2) := by decide +kernel
theorem dL_law_519 : decode cL_law 519 = .ok (.invokevirtual 142, 3) := by decide +kernel
theorem dL_law_522 : decode cL_law 522 = .ok (.if_icmp .ne 12, 3) := by decide +kernel
theorem dL_law_525 : decode cL_law 525 = .ok (.iload 14, 2) := by decide +kernel
theorem dL_law_527 : decode cL_law 527 = .ok (.iload 15, 2) := by decide +kernel
theorem dL_law_529 : decode cL_law 529 = .ok (.if_icmp .ge 5, 3) := by decide +kernel
theorem dL_law_532 : decode cL_law 532 = .ok (.iconst 0, 1) := by decide +kernel
theorem dL_law_533 : decode cL_law 533 = .ok (.ireturn, 1) := by decide +kernel
theorem dL_law_534 : decode cL_law 534 = .ok (.aload_n 2, 1) := by decide +kernel
theorem dL_law_535 : decode cL_law 535 = .ok (.getfield 9, 3) := by decide +kernel
theorem dL_law_538 : decode cL_law 538 = .ok (.astore 16, 2) := by decide +kernel
theorem dL_law_540 : decode cL_law 540 = .ok (.ldc 7, 2) := by decide +kernel
theorem dL_law_542 : decode cL_law 542 = .ok (.istore 17, 2) := by decide +kernel
theorem dL_law_544 : decode cL_law 544 = .ok (.iconst 0, 1) := by decide +kernel
theorem dL_law_545 : decode cL_law 545 = .ok (.istore 18, 2) := by decide +kernel
theorem dL_law_547 : decode cL_law 547 = .ok (.iload 18, 2) := by decide +kernel
theorem dL_law_549 : decode cL_law 549 = .ok (.iload 7, 2) := by decide +kernel
theorem dL_law_551 : decode cL_law 551 = .ok (.if_icmp .ge 80, 3) := by decide +kernel
theorem dL_law_554 : decode cL_law 554 = .ok (.aload_n 2, 1) := by decide +kernel
theorem dL_law_555 : decode cL_law 555 = .ok (.aload 16, 2) := by decide +kernel
theorem dL_law_557 : decode cL_law 557 = .ok (.iload 18, 2) := by decide +kernel
theorem dL_law_559 : decode cL_law 559 = .ok (.aload_n 1, 1) := by decide +kernel
theorem dL_law_560 : decode cL_law 560 = .ok (.iload 14, 2) := by decide +kernel
theorem dL_law_562 : decode cL_law 562 = .ok (.iload 18, 2) := by decide +kernel
theorem dL_law_564 : decode cL_law 564 = .ok (.invokevirtual 150, 3) := by decide +kernel
theorem dL_law_567 : decode cL_law 567 = .ok (.invokevirtual 39, 3) := by decide +kernel
theorem dL_law_570 : decode cL_law 570 = .ok (.astore 16, 2) := by decide +kernel
theorem dL_law_572 : decode cL_law 572 = .ok (.iconst 0, 1) := by decide +kernel
theorem dL_law_573 : decode cL_law 573 = .ok (.istore 19, 2) := by decide +kernel
theorem dL_law_575 : decode cL_law 575 = .ok (.iconst 0, 1) := by decide +kernel
theorem dL_law_576 : decode cL_law 576 = .ok (.istore 20, 2) := by decide +kernel
theorem dL_law_578 : decode cL_law 578 = .ok (.iload 20, 2) := by decide +kernel
theorem dL_law_580 : decode cL_law 580 = .ok (.iload 7, 2) := by decide +kernel
theorem dL_law_582 : decode cL_law 582 = .ok (.if_icmp .ge 34, 3) := by decide +kernel
theorem dL_law_585 : decode cL_law 585 = .ok (.iload 19, 2) := by decide +kernel
theorem dL_law_587 : decode cL_law 587 = .ok (.aload_n 1, 1) := by decide +kernel
theorem dL_law_588 : decode cL_law 588 = .ok (.iload 14, 2) := by decide +kernel
theorem dL_law_590 : decode cL_law 590 = .ok (.iload 20, 2) := by decide +kernel
theorem dL_law_592 : decode cL_law 592 = .ok (.invokevirtual 150, 3) := by decide +kernel
theorem dL_law_595 : decode cL_law 595 = .ok (.aload_n 1, 1) := by decide +kernel
theorem dL_law_596 : decode cL_law 596 = .ok (.iload 14, 2) := by decide +kernel
theorem dL_law_598 : decode cL_law 598 = .ok (.iload 18, 2) := by decide +kernel
theorem dL_law_600 : decode cL_law 600 = .ok (.invokevirtual 150, 3) := by decide +kernel
theorem dL_law_603 : decode cL_law 603 = .ok (.isub, 1) := by decide +kernel
theorem dL_law_604 : decode cL_law 604 = .ok (.invokestatic 47, 3) := by decide +kernel
theorem dL_law_607 : decode cL_law 607 = .ok (.iadd, 1) := by decide +kernel
theorem dL_law_608 : decode cL_law 608 = .ok (.istore 19, 2) := by decide +kernel
theorem dL_law_610 : decode cL_law 610 = .ok (.iinc 20 1, 3) := by decide +kernel
theorem dL_law_613 : decode cL_law 613 = .ok (.goto (-35), 3) := by decide +kernel
theorem dL_law_616 : decode cL_law 616 = .ok (.iload 17, 2) := by decide +kernel
theorem dL_law_618 : decode cL_law 618 = .ok (.iload 19, 2) := by decide +kernel
theorem dL_law_620 : decode cL_law 620 = .ok (.invokestatic 153, 3) := by decide +kernel
theorem dL_law_623 : decode cL_law 623 = .ok (.istore 17, 2) := by decide +kernel
theorem dL_law_625 : decode cL_law 625 = .ok (.iinc 18 1, 3) := by decide +kernel
theorem dL_law_628 : decode cL_law 628 = .ok (.goto (-81), 3) := by decide +kernel
theorem dL_law_631 : decode cL_law 631 = .ok (.aload_n 1, 1) := by decide +kernel
theorem dL_law_632 : decode cL_law 632 = .ok (.iload 14, 2) := by decide +kernel
theorem dL_law_634 : decode cL_law 634 = .ok (.iconst 0, 1) := by decide +kernel
theorem dL_law_635 : decode cL_law 635 = .ok (.invokevirtual 150, 3) := by decide +kernel
theorem dL_law_638 : decode cL_law 638 = .ok (.ifCond .ne 14, 3) := by decide +kernel
theorem dL_law_641 : decode cL_law 641 = .ok (.aload_n 1, 1) := by decide +kernel
theorem dL_law_642 : decode cL_law 642 = .ok (.iload 14, 2) := by decide +kernel
theorem dL_law_644 : decode cL_law 644 = .ok (.invokevirtual 142, 3) := by decide +kernel
theorem dL_law_647 : decode cL_law 647 = .ok (.iload 17, 2) := by decide +kernel
theorem dL_law_649 : decode cL_law 649 = .ok (.if_icmp .eq 5, 3) := by decide +kernel
theorem dL_law_652 : decode cL_law 652 = .ok (.iconst 0, 1) := by decide +kernel
theorem dL_law_653 : decode cL_law 653 = .ok (.ireturn, 1) := by decide +kernel
theorem dL_law_654 : decode cL_law 654 = .ok (.iconst 0, 1) := by decide +kernel
theorem dL_law_655 : decode cL_law 655 = .ok (.istore 18, 2) := by decide +kernel
theorem dL_law_657 : decode cL_law 657 = .ok (.iload 18, 2) := by decide +kernel
theorem dL_law_659 : decode cL_law 659 = .ok (.iload 7, 2) := by decide +kernel
theorem dL_law_661 : decode cL_law 661 = .ok (.if_icmp .ge 27, 3) := by decide +kernel
theorem dL_law_664 : decode cL_law 664 = .ok (.aload 16, 2) := by decide +kernel
theorem dL_law_666 : decode cL_law 666 = .ok (.iload 18, 2) := by decide +kernel
theorem dL_law_668 : decode cL_law 668 = .ok (.iaload, 1) := by decide +kernel
theorem dL_law_669 : decode cL_law 669 = .ok (.aload_n 1, 1) := by decide +kernel
theorem dL_law_670 : decode cL_law 670 = .ok (.iload 14, 2) := by decide +kernel
theorem dL_law_672 : decode cL_law 672 = .ok (.iload 18, 2) := by decide +kernel
theorem dL_law_674 : decode cL_law 674 = .ok (.invokevirtual 156, 3) := by decide +kernel
theorem dL_law_677 : decode cL_law 677 = .ok (.if_icmp .eq 5, 3) := by decide +kernel
theorem dL_law_680 : decode cL_law 680 = .ok (.iconst 0, 1) := by decide +kernel
theorem dL_law_681 : decode cL_law 681 = .ok (.ireturn, 1) := by decide +kernel
theorem dL_law_682 : decode cL_law 682 = .ok (.iinc 18 1, 3) := by decide +kernel
theorem dL_law_685 : decode cL_law 685 = .ok (.goto (-28), 3) := by decide +kernel
theorem dL_law_688 : decode cL_law 688 = .ok (.iinc 14 1, 3) := by decide +kernel
theorem dL_law_691 : decode cL_law 691 = .ok (.goto (-332), 3) := by decide +kernel
theorem dL_law_694 : decode cL_law 694 = .ok (.iload 13, 2) := by decide +kernel
theorem dL_law_696 : decode cL_law 696 = .ok (.aload_n 1, 1) := by decide +kernel
theorem dL_law_697 : decode cL_law 697 = .ok (.invokevirtual 159, 3) := by decide +kernel
theorem dL_law_700 : decode cL_law 700 = .ok (.if_icmp .ne 16, 3) := by decide +kernel
theorem dL_law_703 : decode cL_law 703 = .ok (.iload 13, 2) := by decide +kernel
theorem dL_law_705 : decode cL_law 705 = .ok (.ifCond .ne 13, 3) := by decide +kernel
theorem dL_law_708 : decode cL_law 708 = .ok (.aload_n 1, 1) := by decide +kernel
theorem dL_law_709 : decode cL_law 709 = .ok (.invokevirtual 145, 3) := by decide +kernel
theorem dL_law_712 : decode cL_law 712 = .ok (.iconst (-1), 1) := by decide +kernel
theorem dL_law_713 : decode cL_law 713 = .ok (.if_icmp .eq 5, 3) := by decide +kernel
theorem dL_law_716 : decode cL_law 716 = .ok (.iconst 0, 1) := by decide +kernel
theorem dL_law_717 : decode cL_law 717 = .ok (.ireturn, 1) := by decide +kernel
theorem dL_law_718 : decode cL_law 718 = .ok (.aload_n 1, 1) := by decide +kernel
theorem dL_law_719 : decode cL_law 719 = .ok (.invokevirtual 162, 3) := by decide +kernel
theorem dL_law_722 : decode cL_law 722 = .ok (.istore 14, 2) := by decide +kernel
theorem dL_law_724 : decode cL_law 724 = .ok (.iload 4, 2) := by decide +kernel
theorem dL_law_726 : decode cL_law 726 = .ok (.iconst 4, 1) := by decide +kernel
theorem dL_law_727 : decode cL_law 727 = .ok (.ishr, 1) := by decide +kernel
theorem dL_law_728 : decode cL_law 728 = .ok (.iload 7, 2) := by decide +kernel
theorem dL_law_730 : decode cL_law 730 = .ok (.invokestatic 15, 3) := by decide +kernel
theorem dL_law_733 : decode cL_law 733 = .ok (.istore 15, 2) := by decide +kernel
theorem dL_law_735 : decode cL_law 735 = .ok (.iload 14, 2) := by decide +kernel
theorem dL_law_737 : decode cL_law 737 = .ok (.ifCond .ge 10, 3) := by decide +kernel
theorem dL_law_740 : decode cL_law 740 = .ok (.aload_n 1, 1) := by decide +kernel
theorem dL_law_741 : decode cL_law 741 = .ok (.invokevirtual 121, 3) := by decide +kernel
theorem dL_law_744 : decode cL_law 744 = .ok (.goto 20, 3) := by decide +kernel
theorem dL_law_747 : decode cL_law 747 = .ok (.aload_n 1, 1) := by decide +kernel
theorem dL_law_748 : decode cL_law 748 = .ok (.iload 14, 2) := by decide +kernel
theorem dL_law_750 : decode cL_law 750 = .ok (.iconst 1, 1) := by decide +kernel
theorem dL_law_751 : decode cL_law 751 = .ok (.invokevirtual 165, 3) := by decide +kernel
theorem dL_law_754 : decode cL_law 754 = .ok (.aload_n 1, 1) := by decide +kernel
theorem dL_law_755 : decode cL_law 755 = .ok (.iload 14, 2) := by decide +kernel
theorem dL_law_757 : decode cL_law 757 = .ok (.iconst (-1), 1) := by decide +kernel
theorem dL_law_758 : decode cL_law 758 = .ok (.invokevirtual 165, 3) := by decide +kernel
theorem dL_law_761 : decode cL_law 761 = .ok (.invokestatic 153, 3) := by decide +kernel
theorem dL_law_764 : decode cL_law 764 = .ok (.istore 16, 2) := by decide +kernel
theorem dL_law_766 : decode cL_law 766 = .ok (.iload 14, 2) := by decide +kernel
theorem dL_law_768 : decode cL_law 768 = .ok (.ifCond .lt 12, 3) := by decide +kernel
theorem dL_law_771 : decode cL_law 771 = .ok (.iload 16, 2) := by decide +kernel
theorem dL_law_773 : decode cL_law 773 = .ok (.aload_n 1, 1) := by decide +kernel
theorem dL_law_774 : decode cL_law 774 = .ok (.invokevirtual 121, 3) := by decide +kernel
theorem dL_law_777 : decode cL_law 777 = .ok (.if_icmp .ge 41, 3) := by decide +kernel
theorem dL_law_780 : decode cL_law 780 = .ok (.aload_n 1, 1) := by decide +kernel
theorem dL_law_781 : decode cL_law 781 = .ok (.iload 15, 2) := by decide +kernel
theorem dL_law_783 : decode cL_law 783 = .ok (.iconst 1, 1) := by decide +kernel
theorem dL_law_784 : decode cL_law 784 = .ok (.invokevirtual 165, 3) := by decide +kernel
theorem dL_law_787 : decode cL_law 787 = .ok (.iload 16, 2) := by decide +kernel
theorem dL_law_789 : decode cL_law 789 = .ok (.if_icmp .lt 29, 3) := by decide +kernel
theorem dL_law_792 : decode cL_law 792 = .ok (.aload_n 1, 1) := by decide +kernel
theorem dL_law_793 : decode cL_law 793 = .ok (.iload 15, 2) := by decide +kernel
theorem dL_law_795 : decode cL_law 795 = .ok (.iconst (-1), 1) := by decide +kernel
theorem dL_law_796 : decode cL_law 796 = .ok (.invokevirtual 165, 3) := by decide +kernel
theorem dL_law_799 : decode cL_law 799 = .ok (.iload 16, 2) := by decide +kernel
theorem dL_law_801 : decode cL_law 801 = .ok (.if_icmp .lt 17, 3) := by decide +kernel
theorem dL_law_804 : decode cL_law 804 = .ok (.aload_n 1, 1) := by decide +kernel
theorem dL_law_805 : decode cL_law 805 = .ok (.iload 15, 2) := by decide +kernel
theorem dL_law_807 : decode cL_law 807 = .ok (.iconst 0, 1) := by decide +kernel
theorem dL_law_808 : decode cL_law 808 = .ok (.invokevirtual 165, 3) := by decide +kernel
theorem dL_law_811 : decode cL_law 811 = .ok (.aload_n 1, 1) := by decide +kernel
theorem dL_law_812 : decode cL_law 812 = .ok (.invokevirtual 121, 3) := by decide +kernel
theorem dL_law_815 : decode cL_law 815 = .ok (.if_icmp .eq 5, 3) := by decide +kernel
theorem dL_law_818 : decode cL_law 818 = .ok (.iconst 0, 1) := by decide +kernel
theorem dL_law_819 : decode cL_law 819 = .ok (.ireturn, 1) := by decide +kernel
theorem dL_law_820 : decode cL_law 820 = .ok (.aload_n 1, 1) := by decide +kernel
theorem dL_law_821 : decode cL_law 821 = .ok (.invokevirtual 96, 3) := by decide +kernel
theorem dL_law_824 : decode cL_law 824 = .ok (.lload 5, 2) := by decide +kernel
theorem dL_law_826 : decode cL_law 826 = .ok (.lcmp, 1) := by decide +kernel
theorem dL_law_827 : decode cL_law 827 = .ok (.ifCond .eq 5, 3) := by decide +kernel
theorem dL_law_830 : decode cL_law 830 = .ok (.iconst 0, 1) := by decide +kernel
theorem dL_law_831 : decode cL_law 831 = .ok (.ireturn, 1) := by decide +kernel
theorem dL_law_832 : decode cL_law 832 = .ok (.iload 4, 2) := by decide +kernel
theorem dL_law_834 : decode cL_law 834 = .ok (.iconst 5, 1) := by decide +kernel
theorem dL_law_835 : decode cL_law 835 = .ok (.ishr, 1) := by decide +kernel
theorem dL_law_836 : decode cL_law 836 = .ok (.bipush 41, 2) := by decide +kernel
theorem dL_law_838 : decode cL_law 838 = .ok (.invokestatic 15, 3) := by decide +kernel
theorem dL_law_841 : decode cL_law 841 = .ok (.bipush 20, 2) := by decide +kernel
theorem dL_law_843 : decode cL_law 843 = .ok (.isub, 1) := by decide +kernel
theorem dL_law_844 : decode cL_law 844 = .ok (.istore 17, 2) := by decide +kernel
theorem dL_law_846 : decode cL_law 846 = .ok (.aload_n 1, 1) := by decide +kernel
theorem dL_law_847 : decode cL_law 847 = .ok (.iload 17, 2) := by decide +kernel
theorem dL_law_849 : decode cL_law 849 = .ok (.invokevirtual 168, 3) := by decide +kernel
theorem dL_law_852 : decode cL_law 852 = .ok (.istore 18, 2) := by decide +kernel
theorem dL_law_854 : decode cL_law 854 = .ok (.iconst 0, 1) := by decide +kernel
theorem dL_law_855 : decode cL_law 855 = .ok (.istore 19, 2) := by decide +kernel
theorem dL_law_857 : decode cL_law 857 = .ok (.iload 19, 2) := by decide +kernel
theorem dL_law_859 : decode cL_law 859 = .ok (.iload 7, 2) := by decide +kernel
theorem dL_law_861 : decode cL_law 861 = .ok (.if_icmp .ge 69, 3) := by decide +kernel
theorem dL_law_864 : decode cL_law 864 = .ok (.iload 8, 2) := by decide +kernel
theorem dL_law_866 : decode cL_law 866 = .ok (.ifCond .le 64, 3) := by decide +kernel
theorem dL_law_869 : decode cL_law 869 = .ok (.aload_n 2, 1) := by decide +kernel
theorem dL_law_870 : decode cL_law 870 = .ok (.getfield 9, 3) := by decide +kernel
theorem dL_law_873 : decode cL_law 873 = .ok (.invokevirtual 32, 3) := by decide +kernel
theorem dL_law_876 : decode cL_law 876 = .ok (.checkcast 21, 3) := by decide +kernel
theorem dL_law_879 : decode cL_law 879 = .ok (.astore 20, 2) := by decide +kernel
theorem dL_law_881 : decode cL_law 881 = .ok (.aload 20, 2) := by decide +kernel
theorem dL_law_883 : decode cL_law 883 = .ok (.iload 19, 2) := by decide +kernel
theorem dL_law_885 : decode cL_law 885 = .ok (.iload 17, 2) := by decide +kernel
theorem dL_law_887 : decode cL_law 887 = .ok (.iastore, 1) := by decide +kernel
theorem dL_law_888 : decode cL_law 888 = .ok (.aload_n 2, 1) := by decide +kernel
theorem dL_law_889 : decode cL_law 889 = .ok (.aload 20, 2) := by decide +kernel
theorem dL_law_891 : decode cL_law 891 = .ok (.iconst 0, 1) := by decide +kernel
theorem dL_law_892 : decode cL_law 892 = .ok (.invokevirtual 70, 3) := by decide +kernel
theorem dL_law_895 : decode cL_law 895 = .ok (.iload 19, 2) := by decide +kernel
theorem dL_law_897 : decode cL_law 897 = .ok (.iload 18, 2) := by decide +kernel
theorem dL_law_899 : decode cL_law 899 = .ok (.if_icmp .ne 7, 3) := by decide +kernel
theorem dL_law_902 : decode cL_law 902 = .ok (.iconst 1, 1) := by decide +kernel
theorem dL_law_903 : decode cL_law 903 = .ok (.goto 4, 3) := by decide +kernel
theorem dL_law_906 : decode cL_law 906 = .ok (.iconst 0, 1) := by decide +kernel
theorem dL_law_907 : decode cL_law 907 = .ok (.if_icmp .eq 17, 3) := by decide +kernel
theorem dL_law_910 : decode cL_law 910 = .ok (.iload 19, 2) := by decide +kernel
theorem dL_law_912 : decode cL_law 912 = .ok (.iload 18, 2) := by decide +kernel
theorem dL_law_914 : decode cL_law 914 = .ok (.if_icmp .le 8, 3) := by decide +kernel
theorem dL_law_917 : decode cL_law 917 = .ok (.iload 18, 2) := by decide +kernel
theorem dL_law_919 : decode cL_law 919 = .ok (.ifCond .ge 5, 3) := by decide +kernel
theorem dL_law_922 : decode cL_law 922 = .ok (.iconst 0, 1) := by decide +kernel
theorem dL_law_923 : decode cL_law 923 = .ok (.ireturn, 1) := by decide +kernel
theorem dL_law_924 : decode cL_law 924 = .ok (.iinc 19 1, 3) := by decide +kernel
theorem dL_law_927 : decode cL_law 927 = .ok (.goto (-70), 3) := by decide +kernel
theorem dL_law_930 : decode cL_law 930 = .ok (.iload 8, 2) := by decide +kernel
theorem dL_law_932 : decode cL_law 932 = .ok (.ifCond .ne 11, 3) := by decide +kernel
theorem dL_law_935 : decode cL_law 935 = .ok (.iload 18, 2) := by decide +kernel
theorem dL_law_937 : decode cL_law 937 = .ok (.iconst (-1), 1) := by decide +kernel
theorem dL_law_938 : decode cL_law 938 = .ok (.if_icmp .eq 5, 3) := by decide +kernel
theorem dL_law_941 : decode cL_law 941 = .ok (.iconst 0, 1) := by decide +kernel
theorem dL_law_942 : decode cL_law 942 = .ok (.ireturn, 1) := by decide +kernel
theorem dL_law_943 : decode cL_law 943 = .ok (.aload_n 1, 1) := by decide +kernel
theorem dL_law_944 : decode cL_law 944 = .ok (.invokevirtual 171, 3) := by decide +kernel
theorem dL_law_947 : decode cL_law 947 = .ok (.istore 19, 2) := by decide +kernel
theorem dL_law_949 : decode cL_law 949 = .ok (.aload_n 1, 1) := by decide +kernel
theorem dL_law_950 : decode cL_law 950 = .ok (.invokevirtual 174, 3) := by decide +kernel
theorem dL_law_953 : decode cL_law 953 = .ok (.istore 20, 2) := by decide +kernel
theorem dL_law_955 : decode cL_law 955 = .ok (.aload_n 1, 1) := by decide +kernel
theorem dL_law_956 : decode cL_law 956 = .ok (.invokevirtual 133, 3) := by decide +kernel
theorem dL_law_959 : decode cL_law 959 = .ok (.istore 21, 2) := by decide +kernel
theorem dL_law_961 : decode cL_law 961 = .ok (.aload_n 1, 1) := by decide +kernel
theorem dL_law_962 : decode cL_law 962 = .ok (.invokevirtual 177, 3) := by decide +kernel
theorem dL_law_965 : decode cL_law 965 = .ok (.istore 22, 2) := by decide +kernel
theorem dL_law_967 : decode cL_law 967 = .ok (.iconst 1, 1) := by decide +kernel
theorem dL_law_968 : decode cL_law 968 = .ok (.iload 4, 2) := by decide +kernel
theorem dL_law_970 : decode cL_law 970 = .ok (.bipush 6, 2) := by decide +kernel
theorem dL_law_972 : decode cL_law 972 = .ok (.ishr, 1) := by decide +kernel
theorem dL_law_973 : decode cL_law 973 = .ok (.bipush 120, 2) := by decide +kernel
theorem dL_law_975 : decode cL_law 975 = .ok (.invokestatic 15, 3) := by decide +kernel
theorem dL_law_978 : decode cL_law 978 = .ok (.iadd, 1) := by decide +kernel
theorem dL_law_979 : decode cL_law 979 = .ok (.istore 23, 2) := by decide +kernel
theorem dL_law_981 : decode cL_law 981 = .ok (.aload_n 1, 1) := by decide +kernel
theorem dL_law_982 : decode cL_law 982 = .ok (.iload 23, 2) := by decide +kernel
theorem dL_law_984 : decode cL_law 984 = .ok (.invokevirtual 66, 3) := by decide +kernel
theorem dL_law_987 : decode cL_law 987 = .ok (.istore 24, 2) := by decide +kernel
theorem dL_law_989 : decode cL_law 989 = .ok (.iload 24, 2) := by decide +kernel
theorem dL_law_991 : decode cL_law 991 = .ok (.aload_n 2, 1) := by decide +kernel
theorem dL_law_992 : decode cL_law 992 = .ok (.iload 23, 2) := by decide +kernel
theorem dL_law_994 : decode cL_law 994 = .ok (.invokevirtual 69, 3) := by decide +kernel
theorem dL_law_997 : decode cL_law 997 = .ok (.if_icmp .ne 106, 3) := by decide +kernel
theorem dL_law_1000 : decode cL_law 1000 = .ok (.iload 24, 2) := by decide +kernel
theorem dL_law_1002 : decode cL_law 1002 = .ok (.iload 23, 2) := by decide +kernel
theorem dL_law_1004 : decode cL_law 1004 = .ok (.if_icmp .gt 99, 3) := by decide +kernel
theorem dL_law_1007 : decode cL_law 1007 = .ok (.iload 21, 2) := by decide +kernel
theorem dL_law_1009 : decode cL_law 1009 = .ok (.ifCond .lt 15, 3) := by decide +kernel
theorem dL_law_1012 : decode cL_law 1012 = .ok (.iload 24, 2) := by decide +kernel
theorem dL_law_1014 : decode cL_law 1014 = .ok (.iload 21, 2) := by decide +kernel
theorem dL_law_1016 : decode cL_law 1016 = .ok (.iload 23, 2) := by decide +kernel
theorem dL_law_1018 : decode cL_law 1018 = .ok (.invokestatic 153, 3) := by decide +kernel
theorem dL_law_1021 : decode cL_law 1021 = .ok (.if_icmp .ne 82, 3) := by decide +kernel
theorem dL_law_1024 : decode cL_law 1024 = .ok (.iload 24, 2) := by decide +kernel
theorem dL_law_1026 : decode cL_law 1026 = .ok (.iload 23, 2) := by decide +kernel
theorem dL_law_1028 : decode cL_law 1028 = .ok (.if_icmp .ge 7, 3) := by decide +kernel
theorem dL_law_1031 : decode cL_law 1031 = .ok (.iconst 1, 1) := by decide +kernel
theorem dL_law_1032 : decode cL_law 1032 = .ok (.goto 4, 3) := by decide +kernel
theorem dL_law_1035 : decode cL_law 1035 = .ok (.iconst 0, 1) := by decide +kernel
theorem dL_law_1036 : decode cL_law 1036 = .ok (.iload 21, 2) := by decide +kernel
theorem dL_law_1038 : decode cL_law 1038 = .ok (.ifCond .lt 14, 3) := by decide +kernel
theorem dL_law_1041 : decode cL_law 1041 = .ok (.iload 21, 2) := by decide +kernel
theorem dL_law_1043 : decode cL_law 1043 = .ok (.iload 23, 2) := by decide +kernel
theorem dL_law_1045 : decode cL_law 1045 = .ok (.if_icmp .ge 7, 3) := by decide +kernel
theorem dL_law_1048 : decode cL_law 1048 = .ok (.iconst 1, 1) := by decide +kernel
theorem dL_law_1049 : decode cL_law 1049 = .ok (.goto 4, 3) := by decide +kernel
theorem dL_law_1052 : decode cL_law 1052 = .ok (.iconst 0, 1) := by decide +kernel
theorem dL_law_1053 : decode cL_law 1053 = .ok (.if_icmp .ne 50, 3) := by decide +kernel
theorem dL_law_1056 : decode cL_law 1056 = .ok (.iload 21, 2) := by decide +kernel
theorem dL_law_1058 : decode cL_law 1058 = .ok (.ifCond .lt 24, 3) := by decide +kernel
theorem dL_law_1061 : decode cL_law 1061 = .ok (.aload_n 1, 1) := by decide +kernel
theorem dL_law_1062 : decode cL_law 1062 = .ok (.invokevirtual 133, 3) := by decide +kernel
theorem dL_law_1065 : decode cL_law 1065 = .ok (.iload 21, 2) := by decide +kernel
theorem dL_law_1067 : decode cL_law 1067 = .ok (.iload 24, 2) := by decide +kernel
theorem dL_law_1069 : decode cL_law 1069 = .ok (.isub, 1) := by decide +kernel
theorem dL_law_1070 : decode cL_law 1070 = .ok (.if_icmp .ne 33, 3) := by decide +kernel
theorem dL_law_1073 : decode cL_law 1073 = .ok (.aload_n 1, 1) := by decide +kernel
theorem dL_law_1074 : decode cL_law 1074 = .ok (.invokevirtual 177, 3) := by decide +kernel
theorem dL_law_1077 : decode cL_law 1077 = .ok (.iload 22, 2) := by decide +kernel
theorem dL_law_1079 : decode cL_law 1079 = .ok (.if_icmp .ne 24, 3) := by decide +kernel
theorem dL_law_1082 : decode cL_law 1082 = .ok (.iload 21, 2) := by decide +kernel
theorem dL_law_1084 : decode cL_law 1084 = .ok (.ifCond .lt 21, 3) := by decide +kernel
theorem dL_law_1087 : decode cL_law 1087 = .ok (.iload 21, 2) := by decide +kernel
theorem dL_law_1089 : decode cL_law 1089 = .ok (.iload 23, 2) := by decide +kernel
theorem dL_law_1091 : decode cL_law 1091 = .ok (.if_icmp .gt 14, 3) := by decide +kernel
theorem dL_law_1094 : decode cL_law 1094 = .ok (.aload_n 1, 1) := by decide +kernel
theorem dL_law_1095 : decode cL_law 1095 = .ok (.invokevirtual 121, 3) := by decide +kernel
theorem dL_law_1098 : decode cL_law 1098 = .ok (.iload 22, 2) := by decide +kernel
theorem dL_law_1100 : decode cL_law 1100 = .ok (.if_icmp .eq 5, 3) := by decide +kernel
theorem dL_law_1103 : decode cL_law 1103 = .ok (.iconst 0, 1) := by decide +kernel
theorem dL_law_1104 : decode cL_law 1104 = .ok (.ireturn, 1) := by decide +kernel
theorem dL_law_1105 : decode cL_law 1105 = .ok (.iload 4, 2) := by decide +kernel
theorem dL_law_1107 : decode cL_law 1107 = .ok (.iconst 3, 1) := by decide +kernel
theorem dL_law_1108 : decode cL_law 1108 = .ok (.ishr, 1) := by decide +kernel
theorem dL_law_1109 : decode cL_law 1109 = .ok (.bipush 101, 2) := by decide +kernel
theorem dL_law_1111 : decode cL_law 1111 = .ok (.invokestatic 15, 3) := by decide +kernel
theorem dL_law_1114 : decode cL_law 1114 = .ok (.bipush 50, 2) := by decide +kernel
theorem dL_law_1116 : decode cL_law 1116 = .ok (.isub, 1) := by decide +kernel
theorem dL_law_1117 : decode cL_law 1117 = .ok (.istore 25, 2) := by decide +kernel
theorem dL_law_1119 : decode cL_law 1119 = .ok (.aload_n 2, 1) := by decide +kernel
theorem dL_law_1120 : decode cL_law 1120 = .ok (.aload_n 2, 1) := by decide +kernel
theorem dL_law_1121 : decode cL_law 1121 = .ok (.aload_n 2, 1) := by decide +kernel
theorem dL_law_1122 : decode cL_law 1122 = .ok (.getfield 9, 3) := by decide +kernel
theorem dL_law_1125 : decode cL_law 1125 = .ok (.iload 15, 2) := by decide +kernel
theorem dL_law_1127 : decode cL_law 1127 = .ok (.iload 25, 2) := by decide +kernel
theorem dL_law_1129 : decode cL_law 1129 = .ok (.invokevirtual 39, 3) := by decide +kernel
theorem dL_law_1132 : decode cL_law 1132 = .ok (.putfield 9, 3) := by decide +kernel
theorem dL_law_1135 : decode cL_law 1135 = .ok (.aload_n 2, 1) := by decide +kernel
theorem dL_law_1136 : decode cL_law 1136 = .ok (.dup, 1) := by decide +kernel
theorem dL_law_1137 : decode cL_law 1137 = .ok (.getfield 43, 3) := by decide +kernel
theorem dL_law_1140 : decode cL_law 1140 = .ok (.iload 25, 2) := by decide +kernel
theorem dL_law_1142 : decode cL_law 1142 = .ok (.invokestatic 47, 3) := by decide +kernel
theorem dL_law_1145 : decode cL_law 1145 = .ok (.iadd, 1) := by decide +kernel
theorem dL_law_1146 : decode cL_law 1146 = .ok (.putfield 43, 3) := by decide +kernel
theorem dL_law_1149 : decode cL_law 1149 = .ok (.aload_n 1, 1) := by decide +kernel
theorem dL_law_1150 : decode cL_law 1150 = .ok (.iload 15, 2) := by decide +kernel
theorem dL_law_1152 : decode cL_law 1152 = .ok (.iload 25, 2) := by decide +kernel
theorem dL_law_1154 : decode cL_law 1154 = .ok (.invokevirtual 52, 3) := by decide +kernel
theorem dL_law_1157 : decode cL_law 1157 = .ok (.aload_n 2, 1) := by decide +kernel
theorem dL_law_1158 : decode cL_law 1158 = .ok (.getfield 9, 3) := by decide +kernel
theorem dL_law_1161 : decode cL_law 1161 = .ok (.iload 15, 2) := by decide +kernel
theorem dL_law_1163 : decode cL_law 1163 = .ok (.iaload, 1) := by decide +kernel
theorem dL_law_1164 : decode cL_law 1164 = .ok (.if_icmp .ne 21, 3) := by decide +kernel
theorem dL_law_1167 : decode cL_law 1167 = .ok (.aload_n 1, 1) := by decide +kernel
theorem dL_law_1168 : decode cL_law 1168 = .ok (.invokevirtual 171, 3) := by decide +kernel
theorem dL_law_1171 : decode cL_law 1171 = .ok (.iload 19, 2) := by decide +kernel
theorem dL_law_1173 : decode cL_law 1173 = .ok (.if_icmp .ne 12, 3) := by decide +kernel
theorem dL_law_1176 : decode cL_law 1176 = .ok (.aload_n 1, 1) := by decide +kernel
theorem dL_law_1177 : decode cL_law 1177 = .ok (.invokevirtual 174, 3) := by decide +kernel
theorem dL_law_1180 : decode cL_law 1180 = .ok (.iload 20, 2) := by decide +kernel
theorem dL_law_1182 : decode cL_law 1182 = .ok (.if_icmp .eq 5, 3) := by decide +kernel
theorem dL_law_1185 : decode cL_law 1185 = .ok (.iconst 0, 1) := by decide +kernel
theorem dL_law_1186 : decode cL_law 1186 = .ok (.ireturn, 1) := by decide +kernel
theorem dL_law_1187 : decode cL_law 1187 = .ok (.iconst 0, 1) := by decide +kernel
theorem dL_law_1188 : decode cL_law 1188 = .ok (.istore 26, 2) := by decide +kernel
theorem dL_law_1190 : decode cL_law 1190 = .ok (.iload 26, 2) := by decide +kernel
theorem dL_law_1192 : decode cL_law 1192 = .ok (.iload 8, 2) := by decide +kernel
theorem dL_law_1194 : decode cL_law 1194 = .ok (.if_icmp .ge 25, 3) := by decide +kernel
theorem dL_law_1197 : decode cL_law 1197 = .ok (.aload_n 1, 1) := by decide +kernel
theorem dL_law_1198 : decode cL_law 1198 = .ok (.iload 26, 2) := by decide +kernel
theorem dL_law_1200 : decode cL_law 1200 = .ok (.invokevirtual 136, 3) := by decide +kernel
theorem dL_law_1203 : decode cL_law 1203 = .ok (.aload 12, 2) := by decide +kernel
theorem dL_law_1205 : decode cL_law 1205 = .ok (.iload 26, 2) := by decide +kernel
theorem dL_law_1207 : decode cL_law 1207 = .ok (.baload, 1) := by decide +kernel
theorem dL_law_1208 : decode cL_law 1208 = .ok (.if_icmp .eq 5, 3) := by decide +kernel
theorem dL_law_1211 : decode cL_law 1211 = .ok (.iconst 0, 1) := by decide +kernel
theorem dL_law_1212 : decode cL_law 1212 = .ok (.ireturn, 1) := by decide +kernel
theorem dL_law_1213 : decode cL_law 1213 = .ok (.iinc 26 1, 3) := by decide +kernel
theorem dL_law_1216 : decode cL_law 1216 = .ok (.goto (-26), 3) := by decide +kernel
theorem dL_law_1219 : decode cL_law 1219 = .ok (.iinc 3 1, 3) := by decide +kernel
theorem dL_law_1222 : decode cL_law 1222 = .ok (.goto (-1200), 3) := by decide +kernel
theorem dL_law_1225 : decode cL_law 1225 = .ok (.aload_n 2, 1) := by decide +kernel
theorem dL_law_1226 : decode cL_law 1226 = .ok (.aload_n 1, 1) := by decide +kernel
theorem dL_law_1227 : decode cL_law 1227 = .ok (.invokevirtual 180, 3) := by decide +kernel
theorem dL_law_1230 : decode cL_law 1230 = .ok (.ireturn, 1) := by decide +kernel
abbrev vwCl : List vw_C := [(RX0, TX0, 2), (RX1, TX1, 2), (RX2, TX2, 6), (RX3, TX3, 3)]

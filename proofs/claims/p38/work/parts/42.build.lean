/-! build: a ring that the script chooses -/
section BU
variable {p : Program} {l : Launch} {e : Env} {R : Room} {s : State} {m : MethodId} {args : Array Value} {below : List Frame} {meth : Method} {c : Code} {H : Heap} {locs : List Loc} {cells slots : Nat} {Q : State → Prop}
variable {cc : ByteArray} {pc : Nat} {ls : Array Slot} {γ : xG} {A : Nat → Prop} {W0 wc : va_W} {Pw : Option Value → va_W → va_W → Prop} {mc ms : Nat} {st0 rest : List Value} {Ex : State → Prop} {y : MethodName} {bytes : ByteArray} {maxL nL index : Nat} {ws Ts : List Cond} {rm : Room} {own host : String} {b : Addr}
theorem xINC {H0 : Heap} (S : CallFix p m c cc nL s args Ts own) (hM : xC γ l y ws rm [.ref b] Ex wc Pw mc ms) (cw : va_CN R s args own index y host bytes maxL none ws rm mc ms 0) (hy : y.name = "<init>") (hi : (Cond.instanceMethod y).before args s = true) (hEb : ∀ (a : Array Value) (U : State) (g : JFrame) (mk : MethodId), Ex U → Ex (U.calling g mk a)) (hEx : ∀ U : State, U.heap = H → s.WarmedH U.vm → Ex U) (hK : xK γ s) (hP : xP γ W0 H) (hD : va_D A W0) (hS : va_S A H0 H locs) (hA : ∀ q : Nat, H0.size ≤ q → A q)
    (is : List Nat) (hnd : va_nd is = true) (hC : is.map (fun i => W0[i]?) = wc.map some) (hl : ls.size = nL) (hst : st0 = .ref b :: rest) (hW : (rest.map fun v => v.category).sum ≤ 8) (hdg : decode cc pc = .ok (.invokespecial index, 3)) (hcs : cells + mc ≤ R.cells ∧ slots + ms ≤ R.slots)
    (kk : ∀ (r : Option Value) (w1 wn : va_W) (H1 : Heap) (locs1 : List Loc), Pw r w1 wn → xP γ (xup W0 is w1 ++ wn) H1 → va_D A (xup W0 is w1 ++ wn) → va_S A H0 H1 locs1 → W p l e R s m args below meth c H1 locs1 (cells + mc) (slots + ms) Q (F0 m (pc + 3) ls (r.toList ++ rest))) : W p l e R s m args below meth c H locs cells slots Q (F0 m pc ls st0) := by
  subst hst
  exact xcC (va_runIN (As := []) (rest := rest) S (hM H.size) ⟨cw, hy, hi⟩ ⟨xC_blind hEb, fun U hU hW => ⟨rfl, by rw [hU], by rw [hU]; exact xPcut hP hC, va_K.moved hW.alike hK, (hD.sub is hnd hC).weaken (fun _ _ _ _ => trivial), hEx U hU hW⟩⟩ rfl rfl hl rfl (lv_room hW) hdg hcs) hP hD hS hA hC kk
end BU
theorem xext0 {γ : xG} {C : va_W} {H : Heap} {ta : Nat → Nat} {n : Nat} {ks : Nat → xRow} (hP : xP γ C H) : xP γ (C ++ ([] ++ xTs γ ta n ks 0)) H := by
  have e : C ++ ([] ++ xTs γ ta n ks 0) = C := by
    show C ++ [] = C
    exact List.append_nil C
  rw [e]
  exact hP
theorem xextD {γ : xG} {A : Nat → Prop} {C : va_W} {ta : Nat → Nat} {n : Nat} {ks : Nat → xRow} (hD : va_D A C) : va_D A (C ++ ([] ++ xTs γ ta n ks 0)) := by
  have e : C ++ ([] ++ xTs γ ta n ks 0) = C := by
    show C ++ [] = C
    exact List.append_nil C
  rw [e]
  exact hD
theorem xInv.le {j j2 n kc : Nat} {f : xRow} {ks : Nat → xRow} (h : xInv j n kc f ks) (hj : j ≤ j2) (h2 : j2 ≤ 512) : xInv j2 n kc f ks := ⟨h.1, h.2.1, h.2.2.1, h2, h.2.2.2.2.1.mono (by omega), fun t ht => (h.2.2.2.2.2 t ht).mono (by omega)⟩
theorem xInv.start {n : Nat} {ks : Nat → xRow} (h0 : 3 ≤ n) (h1 : n ≤ 12) : xInv 0 n 0 (fun _ => 0) ks := ⟨h0, h1, by decide, by decide, xOkR_0 (by decide), fun t ht => absurd ht (Nat.not_lt_zero t)⟩
def wsCellTail : List Cond := [.constant RL 8 (790386105)]
theorem c_L_cell (l : Launch) (b L : Nat) (xs : Nat → Int32) (k : Nat) (hk : k < 1000) (hL : L ≤ 260) : xRS l yL_cell wsL_cell ({ frames := 0, cells := 0, slots := 0, locals := 0 } : Room) b L xs k := by
  unfold xRS
  refine Met.ofW (cc := cL_cell) (maxL := 2) (ret := (some .int)) (by decide +kernel) rfl ?_
  intro p e s m args below meth c s₁ B hml hv
  obtain ⟨rfl, hbl, hX⟩ := hv
  have hl := lv_entry [Value.ref b, .int (nI k)] (n := 2) (Nat.le_of_ble_eq_true rfl)
  rw [lg_entry_eq]
  have hx := B.exec
  have hb := B.bytes
  have hr := B.returns
  have hts := atoms_spec (ws := wsL_cell) B.pre
  have hown : s.vm.findClass RL = some m.cls := findClass_of_methodNamed B.named
  have hlocks := B.notSynchronized
  have hS : va_S (fun _ => False) s.heap s.heap [] := va_S.rf
  have body : ∀ ls : Array Slot, lv_has ls 2 [(0, .ref b), (1, .int (nI k))] → W p l e ({ frames := 0, cells := 0, slots := 0, locals := 0 } : Room) s m [Value.ref b, .int (nI k)].toArray below meth c s.heap [] 0 0 (MQ below (fun _ st o t => (∃ v : Int32, o = .returned (some (.int v))) ∧ t.heap = st.heap) [Value.ref b, .int (nI k)].toArray s 0 0 (fun _ => False)) (F0 m 0 ls []) := by
    intro ls hl
    have hend : ∀ v : Int32, W p l e ({ frames := 0, cells := 0, slots := 0, locals := 0 } : Room) s m [Value.ref b, .int (nI k)].toArray below meth c s.heap [] 0 0 (MQ below (fun _ st o t => (∃ v : Int32, o = .returned (some (.int v))) ∧ t.heap = st.heap) [Value.ref b, .int (nI k)].toArray s 0 0 (fun _ => False)) (F0 m 18 ls [.int v]) := fun v => W.iret hx hb hr (fun t ht _ => ⟨⟨v, rfl⟩, ht⟩) (fun q h => by cases h) dL_cell_18 hlocks
    refine lv_iload_n hx hb dL_cell_0 rfl (lv_at hl 1 rfl) ?_
    refine lv_aload_n hx hb dL_cell_1 rfl (lv_at hl 0 rfl) ?_
    refine va_slen hx hb hX hbl (fun h => h) hS dL_cell_2 ?_
    refine lv_icmp_ge (tgt := 12) hx hb dL_cell_3 (by decide) (fun c9 => ?_) (fun c9 => ?_)
    · refine lv_ldc hx hb hown (hts _ (show Cond.constant RL 8 (790386105) ∈ wsL_cell by decide +kernel)) dL_cell_12 ?_
      refine lv_iload_n hx hb dL_cell_14 rfl (lv_at hl 1 rfl) ?_
      refine lv_iconst (v := 3) hx hb dL_cell_15 (by decide) ?_
      refine lv_iadd hx hb dL_cell_16 ?_
      refine lv_imul hx hb dL_cell_17 ?_
      exact hend _
    · have hkL : k < L := by
        rcases Nat.lt_or_ge k L with h | h
        · exact h
        · exact absurd (nI_le (a := L) (b := k) h (by omega)) c9
      refine lv_aload_n hx hb dL_cell_6 rfl (lv_at hl 0 rfl) ?_
      refine lv_iload_n hx hb dL_cell_7 rfl (lv_at hl 1 rfl) ?_
      refine va_sld hx hb hX hbl (fun h => h) hS (vp_in_nI hkL (by omega)) dL_cell_8 ?_
      refine lv_goto (tgt := 18) hx hb dL_cell_9 (by decide) ?_
      exact hend _
  exact body _ hl
/-- what build needs of the state, over the class's cells -/
def xBE (sa : Nat → Nat) (b L : Nat) (xs : Nat → Int32) (wc : va_W) (U : State) : Prop := xLE sa wc U ∧ va_Nw (.methodLinkNest RL 82 yX3_init RL) U ∧ b < U.heap.size ∧ va_X b L xs U U.heap ∧ ¬ va_A wc U.heap.size b
theorem xBE_blind {sa : Nat → Nat} {b L : Nat} {xs : Nat → Int32} {wc : va_W} : ∀ (a : Array Value) (U : State) (g : JFrame) (mk : MethodId), xBE sa b L xs wc U → xBE sa b L xs wc (U.calling g mk a) := fun a U g mk h =>
  ⟨xLE_blind a U g mk h.1, va_Nw.warmM (s := U) (U := U.calling g mk a) (State.WarmedH.refl U) h.2.1, h.2.2.1, va_X.moved (u := U) (U := U.calling g mk a) (Vm.Alike.refl U.vm) h.2.2.2.1, h.2.2.2.2⟩
theorem xnum4 {k : Nat} (h : k < 200) : ¬ nI k - 4 < (-999) ∧ nI k - 4 ≤ 999 := by
  have e1 : (nI k - 4).toInt = (k : Int) - 4 := xsubI (nI_toInt (n := k) (by omega)) (show (4 : Int32).toInt = 4 by decide) (by omega) (by omega)
  have e2 : (-999 : Int32).toInt = -999 := by decide
  have e3 : (999 : Int32).toInt = 999 := by decide
  rw [Int32.lt_iff_toInt_lt, Int32.le_iff_toInt_le, e1, e2, e3]
  omega
theorem hds_L_cell : yL_cell.cls ≠ "java/lang/invoke/MethodHandle" ∧ yL_cell.cls ≠ "java/lang/invoke/VarHandle" ∧ (parseMethodDescriptor yL_cell.desc).map (fun d => d.parameters.length) = some 2 := by decide +kernel
theorem hds_L_act : yL_act.cls ≠ "java/lang/invoke/MethodHandle" ∧ yL_act.cls ≠ "java/lang/invoke/VarHandle" ∧ (parseMethodDescriptor yL_act.desc).map (fun d => d.parameters.length) = some 3 := by decide +kernel
theorem wdL_build_n10a : Cond.classLink RL 10 RX3 ∈ wsL_build := by decide +kernel
theorem wdL_build_n3b : Cond.instantiable RX3 3 ∈ wsL_build := by decide +kernel
theorem wdL_build_n3c : Cond.initialized RX3 ∈ wsL_build := by decide +kernel
theorem iwL_build_3 : ∀ w ∈ wsX30, w ∈ wsL_build := by decide +kernel
theorem wdL_build_iX3_init : Cond.instanceMethod yX3_init ∈ wsL_build := by decide +kernel
theorem hds_X3_init : yX3_init.cls ≠ "java/lang/invoke/MethodHandle" ∧ yX3_init.cls ≠ "java/lang/invoke/VarHandle" ∧ (parseMethodDescriptor yX3_init.desc).map (fun d => d.parameters.length) = some 0 := by decide +kernel
theorem wdL_build_naint : Cond.arrayClass .int ∈ wsL_build := by decide +kernel
theorem flL_build_9 : Cond.fieldLink RL 9 "RingSeesawLaw$Sim" "ring" "[I" ∈ wsL_build := by decide +kernel
theorem flL_build_22 : Cond.fieldLink RL 22 "RingSeesawLaw$Sim" "targets" "[[I" ∈ wsL_build := by decide +kernel
theorem wdL_build_cl1_32 : Cond.methodLink RL 32 ⟨"[I", "clone", "()Ljava/lang/Object;"⟩ ∈ wsL_build := by decide +kernel
theorem wdL_build_cl2 : Cond.sameMethod "[I" "java/lang/Object" "clone" "()Ljava/lang/Object;" ∈ wsL_build := by decide +kernel
theorem wdL_build_cl3 : Cond.native ⟨"java/lang/Object", "clone", "()Ljava/lang/Object;"⟩ ∈ wsL_build := by decide +kernel
theorem wdL_build_cl4 : Cond.instanceMethod ⟨"java/lang/Object", "clone", "()Ljava/lang/Object;"⟩ ∈ wsL_build := by decide +kernel
theorem wdL_build_cl5 : Cond.selects "[I" ⟨"[I", "clone", "()Ljava/lang/Object;"⟩ ⟨"java/lang/Object", "clone", "()Ljava/lang/Object;"⟩ ∈ wsL_build := by decide +kernel
theorem wdL_build_n21a : Cond.classLink RL 21 "[I" ∈ wsL_build := by decide +kernel
set_option maxHeartbeats 16000000 in
set_option maxRecDepth 100000 in
theorem c_L_build (γ : xG) (l : Launch) (hlt : l.stackTraces = false) (sa : Nat → Nat) (q0 q1 a1 q2 a2 q3 a3 q4 : Nat) (kq ka : Nat → Nat) (tn wn : Int32) (tf wf : xRow) (kn : Nat → Int32) (ks : Nat → xRow) (b L : Nat) (xs : Nat → Int32) (hL : L ≤ 260) : xGG γ l yL_build wsL_build ({ frames := 9, cells := 1700, slots := 22000, locals := 170 } : Room) [.ref q0, .ref b] (xBE sa b L xs ([xO q0 2 [.ref q1, .ref q4, .int (nI 0), .int 0, .ref q2, .ref q3], xO q1 0 [.ref a1, .int (nI 6)], xA γ a1 12 (fun _ => 0), xO q2 0 [.ref a2, .int tn], xA γ a2 12 tf, xO q3 1 [.ref a3, .int wn], xA γ a3 12 wf, xQ γ q4 6 (fun t9 => some (kq t9))] ++ xKp γ kq ka kn ks)) ([xO q0 2 [.ref q1, .ref q4, .int (nI 0), .int 0, .ref q2, .ref q3], xO q1 0 [.ref a1, .int (nI 6)], xA γ a1 12 (fun _ => 0), xO q2 0 [.ref a2, .int tn], xA γ a2 12 tf, xO q3 1 [.ref a3, .int wn], xA γ a3 12 wf, xQ γ q4 6 (fun t9 => some (kq t9))] ++ xKp γ kq ka kn ks) (fun r9 w9 => ∃ s0 : Nat, xActP γ q0 q1 a1 q2 a2 q3 a3 q4 s0 kq ka 22 (.ref s0) r9 w9) 1700 22000 := by
  refine xGG.of (cc := cL_build) (maxL := 5) (ret := (some (.object "RingSeesawLaw$Sim"))) (by decide +kernel) rfl (Nat.le_of_ble_eq_true rfl) ?_
  intro p e s m below meth c hx hb hr hml hts hown hlocks hP hK hEx A hA hAw hD ls hl
  have hEv := hEx.1.1
  have hEs := hEx.1.2.1
  have hEh := hEx.1.eh hAw
  have hAr := hEx.1.2.2.2
  have hNest := hEx.2.1
  have hbl := hEx.2.2.1
  have hX := hEx.2.2.2.1
  have hbA : ¬ A b := fun h => hEx.2.2.2.2 (hAw b h)
  have hS : va_S A s.heap s.heap [] := va_S.rf
  have hn0 : 3 ≤ 6 := by decide
  have hn1 : 6 ≤ 12 := by decide
  obtain ⟨ta, -⟩ : ∃ ta : Nat → Nat, True := ⟨fun _ => 0, trivial⟩
  generalize hargs : ([.ref q0, .ref b] : List Value).toArray = args at hts ⊢
  obtain ⟨Q, hQ⟩ : ∃ Q9, Q9 = MQ below (xGQ γ A (fun r9 w9 => ∃ s0 : Nat, xActP γ q0 q1 a1 q2 a2 q3 a3 q4 s0 kq ka 22 (.ref s0) r9 w9)) args s 1700 22000 A := ⟨_, rfl⟩
  rw [← hQ]
  have hown : s.vm.findClass RL = some m.cls := hown
  have hP : xP γ (([xO q0 2 [.ref q1, .ref q4, .int (nI 0), .int 0, .ref q2, .ref q3], xO q1 0 [.ref a1, .int (nI 6)], xA γ a1 12 (fun _ => 0), xO q2 0 [.ref a2, .int tn], xA γ a2 12 tf, xO q3 1 [.ref a3, .int wn], xA γ a3 12 wf, xQ γ q4 6 (fun t9 => some (kq t9))] ++ xKp γ kq ka kn ks) ++ ([] ++ xTs γ ta 6 ks 0)) s.heap := xext0 hP
  have hD : va_D A (([xO q0 2 [.ref q1, .ref q4, .int (nI 0), .int 0, .ref q2, .ref q3], xO q1 0 [.ref a1, .int (nI 6)], xA γ a1 12 (fun _ => 0), xO q2 0 [.ref a2, .int tn], xA γ a2 12 tf, xO q3 1 [.ref a3, .int wn], xA γ a3 12 wf, xQ γ q4 6 (fun t9 => some (kq t9))] ++ xKp γ kq ka kn ks) ++ ([] ++ xTs γ ta 6 ks 0)) := xextD hD
  have hl : lv_has ls 5 [(0, .ref q0), (1, .ref b)] := hl
  refine va_new (ci := 3) (fs := [.null, .null, .int 0]) (C := RX3) (T := TX3) (N := 3) hx hb hts iwL_build_3 tyX3 tyX3_ok hown (hts _ wdL_build_n10a) (hts _ wdL_build_n3b) (hts _ wdL_build_n3c) hK hP hD hS hA rfl (by decide +kernel) (by omega : _ ≤ 1700) (by omega : _ ≤ 22000) dL_build_0 (fun q0x H hP hD hS => ?_)
  have hP := xmvP2 hP
  have hD := xmvD2 hD
  have hP : xP γ (([xO q0 2 [.ref q1, .ref q4, .int (nI 0), .int 0, .ref q2, .ref q3], xO q1 0 [.ref a1, .int (nI 6)], xA γ a1 12 (fun _ => 0), xO q2 0 [.ref a2, .int tn], xA γ a2 12 tf, xO q3 1 [.ref a3, .int wn], xA γ a3 12 wf, xQ γ q4 6 (fun t9 => some (kq t9))] ++ xKp γ kq ka kn ks) ++ ([xO q0x 3 [.null, .null, .int 0]] ++ xTs γ ta 6 ks 0)) H := hP
  have hD : va_D A (([xO q0 2 [.ref q1, .ref q4, .int (nI 0), .int 0, .ref q2, .ref q3], xO q1 0 [.ref a1, .int (nI 6)], xA γ a1 12 (fun _ => 0), xO q2 0 [.ref a2, .int tn], xA γ a2 12 tf, xO q3 1 [.ref a3, .int wn], xA γ a3 12 wf, xQ γ q4 6 (fun t9 => some (kq t9))] ++ xKp γ kq ka kn ks) ++ ([xO q0x 3 [.null, .null, .int 0]] ++ xTs γ ta 6 ks 0)) := hD
  refine lv_dup hx hb dL_build_3 rfl ?_
  refine xINC (rest := [.ref q0x]) ⟨hx, hb, hml, hown, hts⟩ (c_X3_init γ l q0x) (va_cnB 0 hts gL_build_X3_init_n82 rfl rfl rfl hNest (hts _ wdL_build_n3c) hds_X3_init ⟨(Nat.le_of_ble_eq_true rfl), (Nat.le_of_ble_eq_true rfl)⟩) rfl (hts _ wdL_build_iX3_init) xAz_blind (fun U _ hW => xAz.warm hW hAr) hK hP hD hS hA [20] rfl rfl hl.1 rfl (Nat.le_of_ble_eq_true rfl) dL_build_4 ⟨(by omega : _ ≤ 1700), (by omega : _ ≤ 22000)⟩ (fun r9 w9 v9 H locs hw hP hD hS => ?_)
  obtain ⟨r0, tq0, rfl, rfl, rfl⟩ := hw
  have hP : xP γ ((([xO q0 2 [.ref q1, .ref q4, .int (nI 0), .int 0, .ref q2, .ref q3], xO q1 0 [.ref a1, .int (nI 6)], xA γ a1 12 (fun _ => 0), xO q2 0 [.ref a2, .int tn], xA γ a2 12 tf, xO q3 1 [.ref a3, .int wn], xA γ a3 12 wf, xQ γ q4 6 (fun t9 => some (kq t9))] ++ xKp γ kq ka kn ks) ++ ([xO q0x 3 [.ref r0, .ref tq0, .int 0]] ++ xTs γ ta 6 ks 0)) ++ [xA γ r0 6 (fun _ => 0), xT γ tq0 0 (fun _ => none)]) H := hP
  have hD : va_D A ((([xO q0 2 [.ref q1, .ref q4, .int (nI 0), .int 0, .ref q2, .ref q3], xO q1 0 [.ref a1, .int (nI 6)], xA γ a1 12 (fun _ => 0), xO q2 0 [.ref a2, .int tn], xA γ a2 12 tf, xO q3 1 [.ref a3, .int wn], xA γ a3 12 wf, xQ γ q4 6 (fun t9 => some (kq t9))] ++ xKp γ kq ka kn ks) ++ ([xO q0x 3 [.ref r0, .ref tq0, .int 0]] ++ xTs γ ta 6 ks 0)) ++ [xA γ r0 6 (fun _ => 0), xT γ tq0 0 (fun _ => none)]) := hD
  have hP := xmvP2 hP
  have hD := xmvD2 hD
  have hP : xP γ (([xO q0 2 [.ref q1, .ref q4, .int (nI 0), .int 0, .ref q2, .ref q3], xO q1 0 [.ref a1, .int (nI 6)], xA γ a1 12 (fun _ => 0), xO q2 0 [.ref a2, .int tn], xA γ a2 12 tf, xO q3 1 [.ref a3, .int wn], xA γ a3 12 wf, xQ γ q4 6 (fun t9 => some (kq t9))] ++ xKp γ kq ka kn ks) ++ ([xO q0x 3 [.ref r0, .ref tq0, .int 0], xA γ r0 6 (fun _ => 0), xT γ tq0 0 (fun _ => none)] ++ xTs γ ta 6 ks 0)) H := hP
  have hD : va_D A (([xO q0 2 [.ref q1, .ref q4, .int (nI 0), .int 0, .ref q2, .ref q3], xO q1 0 [.ref a1, .int (nI 6)], xA γ a1 12 (fun _ => 0), xO q2 0 [.ref a2, .int tn], xA γ a2 12 tf, xO q3 1 [.ref a3, .int wn], xA γ a3 12 wf, xQ γ q4 6 (fun t9 => some (kq t9))] ++ xKp γ kq ka kn ks) ++ ([xO q0x 3 [.ref r0, .ref tq0, .int 0], xA γ r0 6 (fun _ => 0), xT γ tq0 0 (fun _ => none)] ++ xTs γ ta 6 ks 0)) := hD
  refine W.eq (g2 := F0 m 7 ls [.ref q0x]) rfl ?_
  refine lv_astore_n (lv' := [(2, .ref q0x), (0, .ref q0), (1, .ref b)]) hx hb dL_build_7 rfl hl (by decide) rfl (fun ls hl => ?_)
  refine lv_iconst (v := 3) hx hb dL_build_8 (by decide) ?_
  refine lv_aload_n hx hb dL_build_9 rfl (lv_at hl 2 rfl) ?_
  refine lv_iconst (v := 0) hx hb dL_build_10 (by decide) ?_
  refine xSX (k := 0) (rest := [.int 3]) ⟨hx, hb, hml, hown, hts⟩ (c_L_cell l b L xs 0 (by omega) hL) (va_cwS 2 hts gL_build_L_cell rfl rfl rfl hds_L_cell ⟨(Nat.le_of_ble_eq_true rfl), (Nat.le_of_ble_eq_true rfl)⟩) hX hbl hbA hS rfl hl.1 rfl (Nat.le_of_ble_eq_true rfl) dL_build_11 ⟨(by omega : _ ≤ 1700), (by omega : _ ≤ 22000)⟩ (fun v110x => ?_)
  refine lv_bipush (v := 10) hx hb dL_build_14 (by decide) ?_
  refine xSR (As := [.int v110x, .int 10]) (rest := [.int 3]) (stk := [.int (nI (xBl v110x 10)), .int 3]) ⟨hx, hb, hml, hown, hts⟩ (c_L_below γ l v110x 10 (by omega) (by omega)) (va_cwS 2 hts gL_build_L_below rfl rfl rfl hds_L_below ⟨(Nat.le_of_ble_eq_true rfl), (Nat.le_of_ble_eq_true rfl)⟩) hK hP [] rfl  rfl hl.1 rfl (Nat.le_of_ble_eq_true rfl) dL_build_16 ⟨(by omega : _ ≤ 1700), (by omega : _ ≤ 22000)⟩ rfl ?_
  refine lv_iadd hx hb dL_build_19 ?_
  obtain ⟨P9, eP, hP3, hP12⟩ : ∃ P9 : Nat, P9 = 3 + xBl v110x 10 ∧ 3 ≤ P9 ∧ P9 ≤ 12 := ⟨_, rfl, by omega, by have := xBl_lt (v := v110x) (N := 10) (by omega); omega⟩
  refine x_top (y := nI P9) (by rw [eP]; exact nI_add 3 _) ?_
  refine lv_istore_n (lv' := [(3, .int (nI P9)), (2, .ref q0x), (0, .ref q0), (1, .ref b)]) hx hb dL_build_20 rfl hl (by decide) rfl (fun ls hl => ?_)
  refine lv_aload_n hx hb dL_build_21 rfl (lv_at hl 1 rfl) ?_
  refine lv_iload_n hx hb dL_build_22 rfl (lv_at hl 0 rfl) ?_
  refine x_newI hx hb (hts _ wdL_build_naint) hK hP hD hS hA P9 (nI_pos (by omega)) (nI_clamp (by omega)) (show P9 * 4 ≤ 536870912 by omega) (by omega : _ ≤ 1700) (by omega : _ ≤ 22000) dL_build_23 (fun q23x H hP hD hS => ?_)
  have hP := xmvP2 hP
  have hD := xmvD2 hD
  have hP : xP γ (([xO q0 2 [.ref q1, .ref q4, .int (nI 0), .int 0, .ref q2, .ref q3], xO q1 0 [.ref a1, .int (nI 6)], xA γ a1 12 (fun _ => 0), xO q2 0 [.ref a2, .int tn], xA γ a2 12 tf, xO q3 1 [.ref a3, .int wn], xA γ a3 12 wf, xQ γ q4 6 (fun t9 => some (kq t9))] ++ xKp γ kq ka kn ks) ++ ([xO q0x 3 [.ref r0, .ref tq0, .int 0], xA γ r0 6 (fun _ => 0), xT γ tq0 0 (fun _ => none), xA γ q23x P9 (fun _ => 0)] ++ xTs γ ta 6 ks 0)) H := hP
  have hD : va_D A (([xO q0 2 [.ref q1, .ref q4, .int (nI 0), .int 0, .ref q2, .ref q3], xO q1 0 [.ref a1, .int (nI 6)], xA γ a1 12 (fun _ => 0), xO q2 0 [.ref a2, .int tn], xA γ a2 12 tf, xO q3 1 [.ref a3, .int wn], xA γ a3 12 wf, xQ γ q4 6 (fun t9 => some (kq t9))] ++ xKp γ kq ka kn ks) ++ ([xO q0x 3 [.ref r0, .ref tq0, .int 0], xA γ r0 6 (fun _ => 0), xT γ tq0 0 (fun _ => none), xA γ q23x P9 (fun _ => 0)] ++ xTs γ ta 6 ks 0)) := hD
  refine va_put (D := γ.1) (ci := 3) (v := .ref q23x) (ty := .array .int) (C := RX3) (T := TX3) (N := 3) hx hb hts iwL_build_3 tyX3 tyX3_ok nmX3 hown hK hP hD hS 20 rfl rfl 0 (by decide) (hts _ flL_build_9) (fun _ h9 => h9) rfl (by decide +kernel) rfl rfl (Nat.le_of_ble_eq_true rfl) dL_build_25 (fun H locs hP hD hS => ?_)
  have hP : xP γ (([xO q0 2 [.ref q1, .ref q4, .int (nI 0), .int 0, .ref q2, .ref q3], xO q1 0 [.ref a1, .int (nI 6)], xA γ a1 12 (fun _ => 0), xO q2 0 [.ref a2, .int tn], xA γ a2 12 tf, xO q3 1 [.ref a3, .int wn], xA γ a3 12 wf, xQ γ q4 6 (fun t9 => some (kq t9))] ++ xKp γ kq ka kn ks) ++ ([xO q0x 3 [.ref q23x, .ref tq0, .int 0], xA γ r0 6 (fun _ => 0), xT γ tq0 0 (fun _ => none), xA γ q23x P9 (fun _ => 0)] ++ xTs γ ta 6 ks 0)) H := hP
  have hD : va_D A (([xO q0 2 [.ref q1, .ref q4, .int (nI 0), .int 0, .ref q2, .ref q3], xO q1 0 [.ref a1, .int (nI 6)], xA γ a1 12 (fun _ => 0), xO q2 0 [.ref a2, .int tn], xA γ a2 12 tf, xO q3 1 [.ref a3, .int wn], xA γ a3 12 wf, xQ γ q4 6 (fun t9 => some (kq t9))] ++ xKp γ kq ka kn ks) ++ ([xO q0x 3 [.ref q23x, .ref tq0, .int 0], xA γ r0 6 (fun _ => 0), xT γ tq0 0 (fun _ => none), xA γ q23x P9 (fun _ => 0)] ++ xTs γ ta 6 ks 0)) := hD
  refine lv_aload_n hx hb dL_build_28 rfl (lv_at hl 2 rfl) ?_
  refine lv_iload_n hx hb dL_build_29 rfl (lv_at hl 0 rfl) ?_
  refine xVM (q0 := 0) (ci := 2) (As := [.int (nI P9)]) (rest := []) ⟨hx, hb, hml, hown, hts⟩ (c_X2_lay γ l q0 q1 q2 q3 q4 0 0 a1 6 (fun _ => 0) P9 (by omega) (by omega) (by omega) (by omega)) (cwV 1 hts gL_build_X2_lay rfl rfl rfl hdv_X2_lay ⟨(Nat.le_of_ble_eq_true rfl), (Nat.le_of_ble_eq_true rfl)⟩) hK hP hD hS hA [0, 1, 2] rfl rfl rfl rfl rfl hl.1 rfl (Nat.le_of_ble_eq_true rfl) dL_build_30 ⟨(by omega : _ ≤ 1700), (by omega : _ ≤ 22000)⟩ (fun r9 w9 H locs hw hP hD hS => ?_)
  obtain ⟨rfl, rfl⟩ := hw
  have hP : xP γ (([xO q0 2 [.ref q1, .ref q4, .int (nI 0), .int 0, .ref q2, .ref q3], xO q1 0 [.ref a1, .int (nI P9)], xA γ a1 12 (fun _ => 0), xO q2 0 [.ref a2, .int tn], xA γ a2 12 tf, xO q3 1 [.ref a3, .int wn], xA γ a3 12 wf, xQ γ q4 6 (fun t9 => some (kq t9))] ++ xKp γ kq ka kn ks) ++ ([xO q0x 3 [.ref q23x, .ref tq0, .int 0], xA γ r0 6 (fun _ => 0), xT γ tq0 0 (fun _ => none), xA γ q23x P9 (fun _ => 0)] ++ xTs γ ta 6 ks 0)) H := hP
  have hD : va_D A (([xO q0 2 [.ref q1, .ref q4, .int (nI 0), .int 0, .ref q2, .ref q3], xO q1 0 [.ref a1, .int (nI P9)], xA γ a1 12 (fun _ => 0), xO q2 0 [.ref a2, .int tn], xA γ a2 12 tf, xO q3 1 [.ref a3, .int wn], xA γ a3 12 wf, xQ γ q4 6 (fun t9 => some (kq t9))] ++ xKp γ kq ka kn ks) ++ ([xO q0x 3 [.ref q23x, .ref tq0, .int 0], xA γ r0 6 (fun _ => 0), xT γ tq0 0 (fun _ => none), xA γ q23x P9 (fun _ => 0)] ++ xTs γ ta 6 ks 0)) := hD
  refine W.eq (g2 := F0 m 33 ls [.int (nI 6)]) rfl ?_
  refine lv_bipush (v := 6) hx hb dL_build_33 (by decide) ?_
  refine lv_icmp_eq (tgt := 40) hx hb dL_build_35 (by decide) (fun _ => ?_) (fun c => absurd (rfl) c)
  have hPD := xre (C := [xO q0 2 [.ref q1, .ref q4, .int (nI 0), .int 0, .ref q2, .ref q3], xO q1 0 [.ref a1, .int (nI P9)], xA γ a1 12 (fun _ => 0), xO q2 0 [.ref a2, .int tn], xA γ a2 12 tf, xO q3 1 [.ref a3, .int wn], xA γ a3 12 wf, xQ γ q4 6 (fun t9 => some (kq t9))] ++ xKp γ kq ka kn ks) (E := [xO q0x 3 [.ref q23x, .ref tq0, .int 0], xA γ r0 6 (fun _ => 0), xT γ tq0 0 (fun _ => none), xA γ q23x P9 (fun _ => 0)]) (E2 := [xO q0x 3 [.ref q23x, .ref tq0, .int 0], xA γ q23x P9 (fun _ => 0), xT γ tq0 0 (fun _ => none)]) (T := xTs γ ta 6 ks 0) [0, 3, 2] rfl rfl hP hD
  have hP := hPD.1
  have hD := hPD.2
  have hP := xT_row hP 22 rfl (fun t9 => some (ta t9)) (fun i hi => absurd hi (Nat.not_lt_zero i))
  have hD := xD_row (e := (xT γ tq0 0 (fun t9 => some (ta t9))).2) hD 22 rfl
  have hP : xP γ (([xO q0 2 [.ref q1, .ref q4, .int (nI 0), .int 0, .ref q2, .ref q3], xO q1 0 [.ref a1, .int (nI P9)], xA γ a1 12 (fun _ => 0), xO q2 0 [.ref a2, .int tn], xA γ a2 12 tf, xO q3 1 [.ref a3, .int wn], xA γ a3 12 wf, xQ γ q4 6 (fun t9 => some (kq t9))] ++ xKp γ kq ka kn ks) ++ ([xO q0x 3 [.ref q23x, .ref tq0, .int 0], xA γ q23x P9 (fun _ => 0), xT γ tq0 0 (fun t9 => some (ta t9))] ++ xTs γ ta P9 ks 0)) H := hP
  have hD : va_D A (([xO q0 2 [.ref q1, .ref q4, .int (nI 0), .int 0, .ref q2, .ref q3], xO q1 0 [.ref a1, .int (nI P9)], xA γ a1 12 (fun _ => 0), xO q2 0 [.ref a2, .int tn], xA γ a2 12 tf, xO q3 1 [.ref a3, .int wn], xA γ a3 12 wf, xQ γ q4 6 (fun t9 => some (kq t9))] ++ xKp γ kq ka kn ks) ++ ([xO q0x 3 [.ref q23x, .ref tq0, .int 0], xA γ q23x P9 (fun _ => 0), xT γ tq0 0 (fun t9 => some (ta t9))] ++ xTs γ ta P9 ks 0)) := hD
  refine lv_iconst (v := 0) hx hb dL_build_40 (by decide) ?_
  refine lv_istore (lv' := [(4, .int 0), (3, .int (nI P9)), (2, .ref q0x), (0, .ref q0), (1, .ref b)]) hx hb dL_build_41 hl (by decide) rfl (fun ls hl => ?_)
  have loop43 : ∀ j : Nat, ∀ (k : Nat) (g : xRow), k + j = P9 → (∀ i, k ≤ i → g i = 0) → (xInv k P9 0 g ks) → ∀ (H : Heap) (locs : List Loc), xP γ (([xO q0 2 [.ref q1, .ref q4, .int (nI 0), .int 0, .ref q2, .ref q3], xO q1 0 [.ref a1, .int (nI P9)], xA γ a1 12 g, xO q2 0 [.ref a2, .int tn], xA γ a2 12 tf, xO q3 1 [.ref a3, .int wn], xA γ a3 12 wf, xQ γ q4 6 (fun t9 => some (kq t9))] ++ xKp γ kq ka kn ks) ++ ([xO q0x 3 [.ref q23x, .ref tq0, .int 0], xA γ q23x P9 g, xT γ tq0 0 (fun t9 => some (ta t9))] ++ xTs γ ta P9 ks 0)) H → va_D A (([xO q0 2 [.ref q1, .ref q4, .int (nI 0), .int 0, .ref q2, .ref q3], xO q1 0 [.ref a1, .int (nI P9)], xA γ a1 12 g, xO q2 0 [.ref a2, .int tn], xA γ a2 12 tf, xO q3 1 [.ref a3, .int wn], xA γ a3 12 wf, xQ γ q4 6 (fun t9 => some (kq t9))] ++ xKp γ kq ka kn ks) ++ ([xO q0x 3 [.ref q23x, .ref tq0, .int 0], xA γ q23x P9 g, xT γ tq0 0 (fun t9 => some (ta t9))] ++ xTs γ ta P9 ks 0)) → va_S A s.heap H locs → ∀ ls : Array Slot, lv_has ls 5 [(0, .ref q0), (1, .ref b), (2, .ref q0x), (3, .int (nI P9)), (4, .int (nI k))] → W p l e ({ frames := 9, cells := 1700, slots := 22000, locals := 170 } : Room) s m args below meth c H locs (((0 + 1) + 2) + 1) (((0 + 3) + 6) + P9) Q (F0 m 43 ls []) := by
    intro j
    induction j with
    | zero =>
      intro k g hj hz hI H locs hP hD hS ls hl
      refine lv_iload hx hb dL_build_43 (lv_at hl 4 rfl) ?_
      refine lv_iload_n hx hb dL_build_45 rfl (lv_at hl 3 rfl) ?_
      refine lv_icmp_ge (tgt := 118) hx hb dL_build_46 (by decide) (fun _ => ?_) (fun c => absurd (nI_le (a := P9) (b := k) (by omega) (by omega)) c)
      refine lv_aload_n hx hb dL_build_118 rfl (lv_at hl 2 rfl) ?_
      refine lv_aload_n hx hb dL_build_119 rfl (lv_at hl 2 rfl) ?_
      refine va_get (D := γ.1) (ci := 3) (v := .ref tq0) (C := RX3) (T := TX3) (N := 3) hx hb hts iwL_build_3 hown hK hP 20 rfl rfl 1 (by decide) (hts _ flL_build_22) (fun _ h9 => h9) rfl dL_build_120 ?_
      refine lv_aload_n hx hb dL_build_123 rfl (lv_at hl 2 rfl) ?_
      refine va_get (D := γ.1) (ci := 3) (v := .ref q23x) (C := RX3) (T := TX3) (N := 3) hx hb hts iwL_build_3 hown hK hP 20 rfl rfl 0 (by decide) (hts _ flL_build_9) (fun _ h9 => h9) rfl dL_build_124 ?_
      refine x_cloneI hx hb (hml.trans hl.1.symm) hown (hts _ wdL_build_cl1_32) (hts _ wdL_build_cl2) (hts _ wdL_build_cl3) (hts _ wdL_build_cl4) (hts _ wdL_build_cl5) hAr.1 hK hP hD hS hA 21 rfl (Nat.le_of_ble_eq_true rfl) (Nat.le_of_ble_eq_true rfl) (by omega : _ ≤ 1700) (by omega : _ ≤ 22000) dL_build_127 (fun q127x H hP hD hS => ?_)
      have hP := xmvP2 hP
      have hD := xmvD2 hD
      have hP : xP γ (([xO q0 2 [.ref q1, .ref q4, .int (nI 0), .int 0, .ref q2, .ref q3], xO q1 0 [.ref a1, .int (nI P9)], xA γ a1 12 g, xO q2 0 [.ref a2, .int tn], xA γ a2 12 tf, xO q3 1 [.ref a3, .int wn], xA γ a3 12 wf, xQ γ q4 6 (fun t9 => some (kq t9))] ++ xKp γ kq ka kn ks) ++ ([xO q0x 3 [.ref q23x, .ref tq0, .int 0], xA γ q23x P9 g, xT γ tq0 0 (fun t9 => some (ta t9)), xA γ q127x P9 g] ++ xTs γ ta P9 ks 0)) H := hP
      have hD : va_D A (([xO q0 2 [.ref q1, .ref q4, .int (nI 0), .int 0, .ref q2, .ref q3], xO q1 0 [.ref a1, .int (nI P9)], xA γ a1 12 g, xO q2 0 [.ref a2, .int tn], xA γ a2 12 tf, xO q3 1 [.ref a3, .int wn], xA γ a3 12 wf, xQ γ q4 6 (fun t9 => some (kq t9))] ++ xKp γ kq ka kn ks) ++ ([xO q0x 3 [.ref q23x, .ref tq0, .int 0], xA γ q23x P9 g, xT γ tq0 0 (fun t9 => some (ta t9)), xA γ q127x P9 g] ++ xTs γ ta P9 ks 0)) := hD
      refine x_castI hx hb hown (hts _ wdL_build_n21a) hK hP 23 rfl dL_build_130 ?_
      have hCw := xsufT (C := [xO q0 2 [.ref q1, .ref q4, .int (nI 0), .int 0, .ref q2, .ref q3], xO q1 0 [.ref a1, .int (nI P9)], xA γ a1 12 g, xO q2 0 [.ref a2, .int tn], xA γ a2 12 tf, xO q3 1 [.ref a3, .int wn], xA γ a3 12 wf, xQ γ q4 6 (fun t9 => some (kq t9))] ++ xKp γ kq ka kn ks) (E := [xO q0x 3 [.ref q23x, .ref tq0, .int 0], xA γ q23x P9 g, xT γ tq0 0 (fun t9 => some (ta t9)), xA γ q127x P9 g]) (T := xTs γ ta P9 ks 0) (w1 := [xT γ tq0 0 (fun t9 => some (ta t9)), xA γ q127x P9 g]) (nb := 24) (k := 0) (is1 := [22, 23]) rfl xTs_len rfl
      refine xSC (As := [.ref tq0, .ref q127x]) (rest := [.ref q0x]) ⟨hx, hb, hml, hown, hts⟩ (c_X3_with γ l tq0 q127x P9 g ta 0 ks (by omega)) (va_cwS 2 hts gL_build_X3_with rfl rfl rfl hds_X3_with ⟨(Nat.le_of_ble_eq_true rfl), (Nat.le_of_ble_eq_true rfl)⟩) xAz_blind (fun U _ hW => xAz.warm hW hAr) hK hP hD hS hA ([22, 23] ++ List.range' 24 0) (xnd_suf [22, 23] 24 0 rfl (by decide)) hCw rfl hl.1 rfl (Nat.le_of_ble_eq_true rfl) dL_build_133 ⟨(by omega : _ ≤ 1700), (by omega : _ ≤ 22000)⟩ (fun r9 w9 v9 H locs hw hP hD hS => ?_)
      obtain ⟨b111x, rfl, rfl, rfl⟩ := hw
      rw [xup_id hCw] at hP hD
      have hP := xmvP2 hP
      have hD := xmvD2 hD
      have hP : xP γ (([xO q0 2 [.ref q1, .ref q4, .int (nI 0), .int 0, .ref q2, .ref q3], xO q1 0 [.ref a1, .int (nI P9)], xA γ a1 12 g, xO q2 0 [.ref a2, .int tn], xA γ a2 12 tf, xO q3 1 [.ref a3, .int wn], xA γ a3 12 wf, xQ γ q4 6 (fun t9 => some (kq t9))] ++ xKp γ kq ka kn ks) ++ ([xO q0x 3 [.ref q23x, .ref tq0, .int 0], xA γ q23x P9 g, xT γ tq0 0 (fun t9 => some (ta t9)), xA γ q127x P9 g, xT γ b111x (0 + 1) (fun t9 => some ((fun t => if t = 0 then q127x else ta t) t9))] ++ xTs γ ta P9 ks 0)) H := hP
      have hD : va_D A (([xO q0 2 [.ref q1, .ref q4, .int (nI 0), .int 0, .ref q2, .ref q3], xO q1 0 [.ref a1, .int (nI P9)], xA γ a1 12 g, xO q2 0 [.ref a2, .int tn], xA γ a2 12 tf, xO q3 1 [.ref a3, .int wn], xA γ a3 12 wf, xQ γ q4 6 (fun t9 => some (kq t9))] ++ xKp γ kq ka kn ks) ++ ([xO q0x 3 [.ref q23x, .ref tq0, .int 0], xA γ q23x P9 g, xT γ tq0 0 (fun t9 => some (ta t9)), xA γ q127x P9 g, xT γ b111x (0 + 1) (fun t9 => some ((fun t => if t = 0 then q127x else ta t) t9))] ++ xTs γ ta P9 ks 0)) := hD
      refine W.eq (g2 := F0 m 136 ls [.ref b111x, .ref q0x]) rfl ?_
      refine va_put (D := γ.1) (ci := 3) (v := .ref b111x) (ty := .array (.array .int)) (C := RX3) (T := TX3) (N := 3) hx hb hts iwL_build_3 tyX3 tyX3_ok nmX3 hown hK hP hD hS 20 rfl rfl 1 (by decide) (hts _ flL_build_22) (fun _ h9 => h9) rfl (by decide +kernel) rfl rfl (Nat.le_of_ble_eq_true rfl) dL_build_136 (fun H locs hP hD hS => ?_)
      have hP : xP γ (([xO q0 2 [.ref q1, .ref q4, .int (nI 0), .int 0, .ref q2, .ref q3], xO q1 0 [.ref a1, .int (nI P9)], xA γ a1 12 g, xO q2 0 [.ref a2, .int tn], xA γ a2 12 tf, xO q3 1 [.ref a3, .int wn], xA γ a3 12 wf, xQ γ q4 6 (fun t9 => some (kq t9))] ++ xKp γ kq ka kn ks) ++ ([xO q0x 3 [.ref q23x, .ref b111x, .int 0], xA γ q23x P9 g, xT γ tq0 0 (fun t9 => some (ta t9)), xA γ q127x P9 g, xT γ b111x (0 + 1) (fun t9 => some ((fun t => if t = 0 then q127x else ta t) t9))] ++ xTs γ ta P9 ks 0)) H := hP
      have hD : va_D A (([xO q0 2 [.ref q1, .ref q4, .int (nI 0), .int 0, .ref q2, .ref q3], xO q1 0 [.ref a1, .int (nI P9)], xA γ a1 12 g, xO q2 0 [.ref a2, .int tn], xA γ a2 12 tf, xO q3 1 [.ref a3, .int wn], xA γ a3 12 wf, xQ γ q4 6 (fun t9 => some (kq t9))] ++ xKp γ kq ka kn ks) ++ ([xO q0x 3 [.ref q23x, .ref b111x, .int 0], xA γ q23x P9 g, xT γ tq0 0 (fun t9 => some (ta t9)), xA γ q127x P9 g, xT γ b111x (0 + 1) (fun t9 => some ((fun t => if t = 0 then q127x else ta t) t9))] ++ xTs γ ta P9 ks 0)) := hD
      refine lv_aload_n hx hb dL_build_139 rfl (lv_at hl 0 rfl) ?_
      refine xVM (q0 := 0) (ci := 2) (As := []) (rest := []) ⟨hx, hb, hml, hown, hts⟩ (c_X2_keep γ l q0 q1 q2 q3 q4 0 0 a1 P9 g kq ka kn ks (by omega)) (cwV 0 hts gL_build_X2_keep rfl rfl rfl hdv_X2_keep ⟨(Nat.le_of_ble_eq_true rfl), (Nat.le_of_ble_eq_true rfl)⟩) hK hP hD hS hA ([0, 1, 2, 7] ++ List.range' 8 12) rfl (xsuf_M2 (base := [xO q0 2 [.ref q1, .ref q4, .int (nI 0), .int 0, .ref q2, .ref q3], xO q1 0 [.ref a1, .int (nI P9)], xA γ a1 12 g, xO q2 0 [.ref a2, .int tn], xA γ a2 12 tf, xO q3 1 [.ref a3, .int wn], xA γ a3 12 wf, xQ γ q4 6 (fun t9 => some (kq t9))]) rfl rfl rfl (by decide)) rfl rfl rfl hl.1 rfl (Nat.le_of_ble_eq_true rfl) dL_build_140 ⟨(by omega : _ ≤ 1700), (by omega : _ ≤ 22000)⟩ (fun r9 w9 H locs hw hP hD hS => ?_)
      obtain ⟨rfl, rfl⟩ := hw
      rw [xup_suf3 (base := [xO q0 2 [.ref q1, .ref q4, .int (nI 0), .int 0, .ref q2, .ref q3], xO q1 0 [.ref a1, .int (nI P9)], xA γ a1 12 g, xO q2 0 [.ref a2, .int tn], xA γ a2 12 tf, xO q3 1 [.ref a3, .int wn], xA γ a3 12 wf, xQ γ q4 6 (fun t9 => some (kq t9))]) (K := xKp γ kq ka kn ks) (K' := xKp γ kq ka (fun i => if i = 0 then nI P9 else kn i) (fun i => if i = 0 then g else ks i)) (R9 := [xO q0x 3 [.ref q23x, .ref b111x, .int 0], xA γ q23x P9 g, xT γ tq0 0 (fun t9 => some (ta t9)), xA γ q127x P9 g, xT γ b111x (0 + 1) (fun t9 => some ((fun t => if t = 0 then q127x else ta t) t9))] ++ xTs γ ta P9 ks 0) (is1 := [0, 1, 2, 7]) (w1 := [xO q0 2 [.ref q1, .ref q4, .int (nI (0 + 1)), .int 0, .ref q2, .ref q3], xO q1 0 [.ref a1, .int (nI P9)], xA γ a1 12 g, xQ γ q4 6 (fun t9 => some (kq t9))]) (nb := 8) rfl rfl rfl rfl (by decide)] at hP hD
      have hP : xP γ (([xO q0 2 [.ref q1, .ref q4, .int (nI (0 + 1)), .int 0, .ref q2, .ref q3], xO q1 0 [.ref a1, .int (nI P9)], xA γ a1 12 g, xO q2 0 [.ref a2, .int tn], xA γ a2 12 tf, xO q3 1 [.ref a3, .int wn], xA γ a3 12 wf, xQ γ q4 6 (fun t9 => some (kq t9))] ++ xKp γ kq ka (fun i => if i = 0 then nI P9 else kn i) (fun i => if i = 0 then g else ks i)) ++ ([xO q0x 3 [.ref q23x, .ref b111x, .int 0], xA γ q23x P9 g, xT γ tq0 0 (fun t9 => some (ta t9)), xA γ q127x P9 g, xT γ b111x (0 + 1) (fun t9 => some ((fun t => if t = 0 then q127x else ta t) t9))] ++ xTs γ ta P9 ks 0)) H := hP
      have hD : va_D A (([xO q0 2 [.ref q1, .ref q4, .int (nI (0 + 1)), .int 0, .ref q2, .ref q3], xO q1 0 [.ref a1, .int (nI P9)], xA γ a1 12 g, xO q2 0 [.ref a2, .int tn], xA γ a2 12 tf, xO q3 1 [.ref a3, .int wn], xA γ a3 12 wf, xQ γ q4 6 (fun t9 => some (kq t9))] ++ xKp γ kq ka (fun i => if i = 0 then nI P9 else kn i) (fun i => if i = 0 then g else ks i)) ++ ([xO q0x 3 [.ref q23x, .ref b111x, .int 0], xA γ q23x P9 g, xT γ tq0 0 (fun t9 => some (ta t9)), xA γ q127x P9 g, xT γ b111x (0 + 1) (fun t9 => some ((fun t => if t = 0 then q127x else ta t) t9))] ++ xTs γ ta P9 ks 0)) := hD
      refine W.eq (g2 := F0 m 143 ls [.int (nI 0)]) rfl ?_
      refine lv_if_eq (tgt := 148) hx hb dL_build_143 (by decide) (fun _ => ?_) (fun c => absurd (rfl) c)
      have hPD := xre (C := [xO q0 2 [.ref q1, .ref q4, .int (nI (0 + 1)), .int 0, .ref q2, .ref q3], xO q1 0 [.ref a1, .int (nI P9)], xA γ a1 12 g, xO q2 0 [.ref a2, .int tn], xA γ a2 12 tf, xO q3 1 [.ref a3, .int wn], xA γ a3 12 wf, xQ γ q4 6 (fun t9 => some (kq t9))] ++ xKp γ kq ka (fun i => if i = 0 then nI P9 else kn i) (fun i => if i = 0 then g else ks i)) (E := [xO q0x 3 [.ref q23x, .ref b111x, .int 0], xA γ q23x P9 g, xT γ tq0 0 (fun t9 => some (ta t9)), xA γ q127x P9 g, xT γ b111x (0 + 1) (fun t9 => some ((fun t => if t = 0 then q127x else ta t) t9))]) (E2 := [xO q0x 3 [.ref q23x, .ref b111x, .int 0], xA γ q23x P9 g, xT γ b111x (0 + 1) (fun t9 => some ((fun t => if t = 0 then q127x else ta t) t9)), xA γ q127x P9 g]) (T := xTs γ ta P9 ks 0) [0, 1, 4, 3] rfl rfl hP hD
      have hP := hPD.1
      have hD := hPD.2
      have hP := xP_perm (xback_perm ([xO q0 2 [.ref q1, .ref q4, .int (nI (0 + 1)), .int 0, .ref q2, .ref q3], xO q1 0 [.ref a1, .int (nI P9)], xA γ a1 12 g, xO q2 0 [.ref a2, .int tn], xA γ a2 12 tf, xO q3 1 [.ref a3, .int wn], xA γ a3 12 wf, xQ γ q4 6 (fun t9 => some (kq t9))] ++ xKp γ kq ka (fun i => if i = 0 then nI P9 else kn i) (fun i => if i = 0 then g else ks i)) [xO q0x 3 [.ref q23x, .ref b111x, .int 0], xA γ q23x P9 g, xT γ b111x (0 + 1) (fun t9 => some ((fun t => if t = 0 then q127x else ta t) t9))] [xA γ q127x P9 g] (xTs γ ta P9 ks 0)) hP
      have hD := xD_perm (xback_perm ([xO q0 2 [.ref q1, .ref q4, .int (nI (0 + 1)), .int 0, .ref q2, .ref q3], xO q1 0 [.ref a1, .int (nI P9)], xA γ a1 12 g, xO q2 0 [.ref a2, .int tn], xA γ a2 12 tf, xO q3 1 [.ref a3, .int wn], xA γ a3 12 wf, xQ γ q4 6 (fun t9 => some (kq t9))] ++ xKp γ kq ka (fun i => if i = 0 then nI P9 else kn i) (fun i => if i = 0 then g else ks i)) [xO q0x 3 [.ref q23x, .ref b111x, .int 0], xA γ q23x P9 g, xT γ b111x (0 + 1) (fun t9 => some ((fun t => if t = 0 then q127x else ta t) t9))] [xA γ q127x P9 g] (xTs γ ta P9 ks 0)) hD
      rw [xTs_new] at hP hD
      have hP : xP γ (([xO q0 2 [.ref q1, .ref q4, .int (nI (0 + 1)), .int 0, .ref q2, .ref q3], xO q1 0 [.ref a1, .int (nI P9)], xA γ a1 12 g, xO q2 0 [.ref a2, .int tn], xA γ a2 12 tf, xO q3 1 [.ref a3, .int wn], xA γ a3 12 wf, xQ γ q4 6 (fun t9 => some (kq t9))] ++ xKp γ kq ka (fun i => if i = 0 then nI P9 else kn i) (fun i => if i = 0 then g else ks i)) ++ ([xO q0x 3 [.ref q23x, .ref b111x, .int 0], xA γ q23x P9 g, xT γ b111x (0 + 1) (fun t9 => some ((fun t => if t = 0 then q127x else ta t) t9))] ++ xTs γ (fun t => if t = 0 then q127x else ta t) P9 (fun t => if t = 0 then g else ks t) (0 + 1))) H := hP
      have hD : va_D A (([xO q0 2 [.ref q1, .ref q4, .int (nI (0 + 1)), .int 0, .ref q2, .ref q3], xO q1 0 [.ref a1, .int (nI P9)], xA γ a1 12 g, xO q2 0 [.ref a2, .int tn], xA γ a2 12 tf, xO q3 1 [.ref a3, .int wn], xA γ a3 12 wf, xQ γ q4 6 (fun t9 => some (kq t9))] ++ xKp γ kq ka (fun i => if i = 0 then nI P9 else kn i) (fun i => if i = 0 then g else ks i)) ++ ([xO q0x 3 [.ref q23x, .ref b111x, .int 0], xA γ q23x P9 g, xT γ b111x (0 + 1) (fun t9 => some ((fun t => if t = 0 then q127x else ta t) t9))] ++ xTs γ (fun t => if t = 0 then q127x else ta t) P9 (fun t => if t = 0 then g else ks t) (0 + 1))) := hD
      have hI13 : xInv 13 P9 0 g ks := hI.le (by omega) (by decide)
      have hI14 : xInv (14 + 0) P9 (0 + 1) g (fun i => if i = 0 then g else ks i) := hI13.keep (by decide) (by decide)
      have hkn14 : ∀ t, t < 0 + 1 → (fun i => if i = 0 then nI P9 else kn i) t = nI P9 := fun t ht => by dsimp only; rw [if_pos (by omega)]
      refine lv_iconst (v := 0) hx hb dL_build_148 (by decide) ?_
      refine lv_istore (lv' := [(4, .int 0), (0, .ref q0), (1, .ref b), (2, .ref q0x), (3, .int (nI P9))]) hx hb dL_build_149 hl (by decide) rfl (fun ls hl => ?_)
      have loop151 : ∀ j : Nat, ∀ (k : Nat) (n : Nat) (kc : Nat) (td : Int32) (tn : Int32) (wn : Int32) (f : xRow) (tf : xRow) (wf : xRow) (ks : Nat → xRow) (kn : Nat → Int32) (r : Nat) (tq : Nat) (ta : Nat → Nat), k + j = 8 → (xInv (14 + k) n kc f ks) → (∀ t, t < kc → kn t = nI n) → ∀ (H : Heap) (locs : List Loc), xP γ (([xO q0 2 [.ref q1, .ref q4, .int (nI kc), .int td, .ref q2, .ref q3], xO q1 0 [.ref a1, .int (nI n)], xA γ a1 12 f, xO q2 0 [.ref a2, .int tn], xA γ a2 12 tf, xO q3 1 [.ref a3, .int wn], xA γ a3 12 wf, xQ γ q4 6 (fun t9 => some (kq t9))] ++ xKp γ kq ka kn ks) ++ ([xO q0x 3 [.ref r, .ref tq, .int td], xA γ r n f, xT γ tq kc (fun t9 => some (ta t9))] ++ xTs γ ta n ks kc)) H → va_D A (([xO q0 2 [.ref q1, .ref q4, .int (nI kc), .int td, .ref q2, .ref q3], xO q1 0 [.ref a1, .int (nI n)], xA γ a1 12 f, xO q2 0 [.ref a2, .int tn], xA γ a2 12 tf, xO q3 1 [.ref a3, .int wn], xA γ a3 12 wf, xQ γ q4 6 (fun t9 => some (kq t9))] ++ xKp γ kq ka kn ks) ++ ([xO q0x 3 [.ref r, .ref tq, .int td], xA γ r n f, xT γ tq kc (fun t9 => some (ta t9))] ++ xTs γ ta n ks kc)) → va_S A s.heap H locs → ∀ ls : Array Slot, lv_has ls 5 [(0, .ref q0), (1, .ref b), (2, .ref q0x), (4, .int (nI k))] → W p l e ({ frames := 9, cells := 1700, slots := 22000, locals := 170 } : Room) s m args below meth c H locs (1700 - 203 * j) (22000 - 2700 * j) Q (F0 m 151 ls []) := by
        intro j
        induction j with
        | zero =>
          intro k n kc td tn wn f tf wf ks kn r tq ta hj hI hkn H locs hP hD hS ls hl
          refine lv_iload hx hb dL_build_151 (lv_at hl 3 rfl) ?_
          refine lv_bipush (v := 8) hx hb dL_build_153 (by decide) ?_
          refine lv_icmp_ge (tgt := 188) hx hb dL_build_155 (by decide) (fun _ => ?_) (fun c => absurd (nI_le (a := 8) (b := k) (by omega) (by omega)) c)
          refine lv_aload_n hx hb dL_build_188 rfl (lv_at hl 2 rfl) ?_
          subst hQ
          exact xG_a hx hb hr (Or.inl ⟨_, rfl⟩) hlocks dL_build_189 hP hD hS (by omega : _ ≤ 1700) (by omega : _ ≤ 22000) (⟨_, rfl, n, kc, td, tn, wn, f, tf, wf, ks, kn, r, tq, ta, (by rw [show 22 = 14 + k by omega]; exact hI), hkn, rfl⟩)
        | succ j ih151 =>
          intro k n kc td tn wn f tf wf ks kn r tq ta hj hI hkn H locs hP hD hS ls hl
          refine lv_iload hx hb dL_build_151 (lv_at hl 3 rfl) ?_
          refine lv_bipush (v := 8) hx hb dL_build_153 (by decide) ?_
          refine lv_icmp_ge (tgt := 188) hx hb dL_build_155 (by decide) (fun c => absurd c (nI_ge (a := k) (b := 8) (by omega) (by omega))) (fun _ => ?_)
          refine lv_aload_n hx hb dL_build_158 rfl (lv_at hl 0 rfl) ?_
          refine lv_aload_n hx hb dL_build_159 rfl (lv_at hl 2 rfl) ?_
          refine lv_aload_n hx hb dL_build_160 rfl (lv_at hl 1 rfl) ?_
          refine lv_iload hx hb dL_build_161 (lv_at hl 3 rfl) ?_
          refine xSX (k := k) (rest := [.ref q0x, .ref q0]) ⟨hx, hb, hml, hown, hts⟩ (c_L_cell l b L xs k (by omega) hL) (va_cwS 2 hts gL_build_L_cell rfl rfl rfl hds_L_cell ⟨(Nat.le_of_ble_eq_true rfl), (Nat.le_of_ble_eq_true rfl)⟩) hX hbl hbA hS rfl hl.1 rfl (Nat.le_of_ble_eq_true rfl) dL_build_163 ⟨(by omega : _ ≤ 1700), (by omega : _ ≤ 22000)⟩ (fun v112x => ?_)
          refine lv_iconst (v := 4) hx hb dL_build_166 (by decide) ?_
          refine lv_ishr hx hb dL_build_167 ?_
          refine lv_bipush (v := 41) hx hb dL_build_168 (by decide) ?_
          refine lv_iload hx hb dL_build_170 (lv_at hl 3 rfl) ?_
          refine lv_imul hx hb dL_build_172 ?_
          refine lv_iadd hx hb dL_build_173 ?_
          have hP : xP γ (DWt γ q0 q1 a1 q2 a2 q3 a3 q4 q0x kq ka n kc td tn wn f tf wf ks kn r tq ta) _ := hP
          have hD : va_D A (DWt γ q0 q1 a1 q2 a2 q3 a3 q4 q0x kq ka n kc td tn wn f tf wf ks kn r tq ta) := hD
          refine xSGH (rest := []) ⟨hx, hb, hml, hown, hts⟩ (c_L_act γ l hlt sa q0 q1 a1 q2 a2 q3 a3 q4 q0x kq ka ((v112x >>> (4 &&& 31)) + (41 * (nI k))) (14 + k) (by omega) n kc td tn wn f tf wf ks kn r tq ta hI hkn) (vx_cwSW 3 hts gL_build_L_act rfl rfl rfl hds_L_act ⟨(Nat.le_of_ble_eq_true rfl), (Nat.le_of_ble_eq_true rfl)⟩) xLE_blind (fun U hU hW => xLE.at hW hU hEv hEs hEh hAr hD hS hA) hK hP hD hS hA rfl hl.1 rfl (Nat.le_of_ble_eq_true rfl) dL_build_174 ⟨(by omega : _ ≤ 1700), (by omega : _ ≤ 22000)⟩ (fun r9 w9 H locs hw hP hD hS => ?_)
          obtain ⟨rfl, n113x, kc114x, td115x, tn116x, wn117x, f118x, tf119x, wf120x, ks121x, kn122x, r123x, tq124x, ta125x, hI126x, hk127x, rfl⟩ := hw
          have hP : xP γ (([xO q0 2 [.ref q1, .ref q4, .int (nI kc114x), .int td115x, .ref q2, .ref q3], xO q1 0 [.ref a1, .int (nI n113x)], xA γ a1 12 f118x, xO q2 0 [.ref a2, .int tn116x], xA γ a2 12 tf119x, xO q3 1 [.ref a3, .int wn117x], xA γ a3 12 wf120x, xQ γ q4 6 (fun t9 => some (kq t9))] ++ xKp γ kq ka kn122x ks121x) ++ ([xO q0x 3 [.ref r123x, .ref tq124x, .int td115x], xA γ r123x n113x f118x, xT γ tq124x kc114x (fun t9 => some (ta125x t9))] ++ xTs γ ta125x n113x ks121x kc114x)) H := hP
          have hD : va_D A (([xO q0 2 [.ref q1, .ref q4, .int (nI kc114x), .int td115x, .ref q2, .ref q3], xO q1 0 [.ref a1, .int (nI n113x)], xA γ a1 12 f118x, xO q2 0 [.ref a2, .int tn116x], xA γ a2 12 tf119x, xO q3 1 [.ref a3, .int wn117x], xA γ a3 12 wf120x, xQ γ q4 6 (fun t9 => some (kq t9))] ++ xKp γ kq ka kn122x ks121x) ++ ([xO q0x 3 [.ref r123x, .ref tq124x, .int td115x], xA γ r123x n113x f118x, xT γ tq124x kc114x (fun t9 => some (ta125x t9))] ++ xTs γ ta125x n113x ks121x kc114x)) := hD
          refine W.eq (g2 := F0 m 177 ls [.int 1]) rfl ?_
          refine lv_if_ne (tgt := 182) hx hb dL_build_177 (by decide) (fun _ => ?_) (fun c => absurd c (by decide))
          refine lv_iinc (v := nI (k + 1)) (lv' := [(4, .int (nI (k + 1))), (0, .ref q0), (1, .ref b), (2, .ref q0x)]) hx hb dL_build_182 hl (k := 3) rfl (nI_add k 1) (by decide) rfl (fun ls hl => ?_)
          refine lv_goto (tgt := 151) hx hb dL_build_185 (by decide) ?_
          refine W.widen (k := 1700 - 203 * j) (n := 22000 - 2700 * j) (by omega) (by omega) ?_
          exact ih151 (k + 1) n113x kc114x td115x tn116x wn117x f118x tf119x wf120x ks121x kn122x r123x tq124x ta125x (by omega) (hI126x) (hk127x) _ _ hP hD hS ls (lv_sub hl [1, 2, 3, 0] rfl)
      refine W.widen (k := 1700 - 203 * 8) (n := 22000 - 2700 * 8) (by omega) (by omega) ?_
      exact loop151 8 0 P9 (0 + 1) 0 tn wn g tf wf (fun i => if i = 0 then g else ks i) (fun i => if i = 0 then nI P9 else kn i) q23x b111x (fun t => if t = 0 then q127x else ta t) (by omega) (hI14) (hkn14) _ _ hP hD hS ls (lv_sub hl [1, 2, 3, 0] rfl)
    | succ j ih43 =>
      intro k g hj hz hI H locs hP hD hS ls hl
      refine lv_iload hx hb dL_build_43 (lv_at hl 4 rfl) ?_
      refine lv_iload_n hx hb dL_build_45 rfl (lv_at hl 3 rfl) ?_
      refine lv_icmp_ge (tgt := 118) hx hb dL_build_46 (by decide) (fun c => absurd c (nI_ge (a := k) (b := P9) (by omega) (by omega))) (fun _ => ?_)
      refine lv_aload_n hx hb dL_build_49 rfl (lv_at hl 2 rfl) ?_
      refine va_get (D := γ.1) (ci := 3) (v := .ref q23x) (C := RX3) (T := TX3) (N := 3) hx hb hts iwL_build_3 hown hK hP 20 rfl rfl 0 (by decide) (hts _ flL_build_9) (fun _ h9 => h9) rfl dL_build_50 ?_
      refine lv_iload hx hb dL_build_53 (lv_at hl 4 rfl) ?_
      refine lv_aload_n hx hb dL_build_55 rfl (lv_at hl 1 rfl) ?_
      refine lv_iconst (v := 1) hx hb dL_build_56 (by decide) ?_
      refine lv_iload hx hb dL_build_57 (lv_at hl 4 rfl) ?_
      refine lv_iadd hx hb dL_build_59 ?_
      refine x_top (y := nI (1 + k)) (nI_add 1 k) ?_
      refine xSX (k := 1 + k) (rest := [.int (nI k), .ref q23x]) ⟨hx, hb, hml, hown, hts⟩ (c_L_cell l b L xs (1 + k) (by omega) hL) (va_cwS 2 hts gL_build_L_cell rfl rfl rfl hds_L_cell ⟨(Nat.le_of_ble_eq_true rfl), (Nat.le_of_ble_eq_true rfl)⟩) hX hbl hbA hS rfl hl.1 rfl (Nat.le_of_ble_eq_true rfl) dL_build_60 ⟨(by omega : _ ≤ 1700), (by omega : _ ≤ 22000)⟩ (fun v128x => ?_)
      refine lv_iconst (v := 3) hx hb dL_build_63 (by decide) ?_
      refine lv_ishr hx hb dL_build_64 ?_
      refine lv_aload_n hx hb dL_build_65 rfl (lv_at hl 1 rfl) ?_
      refine lv_iconst (v := 1) hx hb dL_build_66 (by decide) ?_
      refine lv_iload hx hb dL_build_67 (lv_at hl 4 rfl) ?_
      refine lv_iadd hx hb dL_build_69 ?_
      refine x_top (y := nI (1 + k)) (nI_add 1 k) ?_
      refine xSX (k := 1 + k) (rest := [.int (v128x >>> (3 &&& 31)), .int (nI k), .ref q23x]) ⟨hx, hb, hml, hown, hts⟩ (c_L_cell l b L xs (1 + k) (by omega) hL) (va_cwS 2 hts gL_build_L_cell rfl rfl rfl hds_L_cell ⟨(Nat.le_of_ble_eq_true rfl), (Nat.le_of_ble_eq_true rfl)⟩) hX hbl hbA hS rfl hl.1 rfl (Nat.le_of_ble_eq_true rfl) dL_build_70 ⟨(by omega : _ ≤ 1700), (by omega : _ ≤ 22000)⟩ (fun v129x => ?_)
      refine lv_iconst (v := 3) hx hb dL_build_73 (by decide) ?_
      refine xSR (As := [.int v129x, .int 3]) (rest := [.int (v128x >>> (3 &&& 31)), .int (nI k), .ref q23x]) (stk := [.int (nI (xBl v129x 3)), .int (v128x >>> (3 &&& 31)), .int (nI k), .ref q23x]) ⟨hx, hb, hml, hown, hts⟩ (c_L_below γ l v129x 3 (by omega) (by omega)) (va_cwS 2 hts gL_build_L_below rfl rfl rfl hds_L_below ⟨(Nat.le_of_ble_eq_true rfl), (Nat.le_of_ble_eq_true rfl)⟩) hK hP [] rfl  rfl hl.1 rfl (Nat.le_of_ble_eq_true rfl) dL_build_74 ⟨(by omega : _ ≤ 1700), (by omega : _ ≤ 22000)⟩ rfl ?_
      refine lv_if_ne (tgt := 86) hx hb dL_build_77 (by decide) (fun c77 => ?_) (fun c77 => ?_)
      · refine lv_bipush (v := 12) hx hb dL_build_86 (by decide) ?_
        refine xSR (As := [.int (v128x >>> (3 &&& 31)), .int 12]) (rest := [.int (nI k), .ref q23x]) (stk := [.int (nI (xBl (v128x >>> (3 &&& 31)) 12)), .int (nI k), .ref q23x]) ⟨hx, hb, hml, hown, hts⟩ (c_L_below γ l (v128x >>> (3 &&& 31)) 12 (by omega) (by omega)) (va_cwS 2 hts gL_build_L_below rfl rfl rfl hds_L_below ⟨(Nat.le_of_ble_eq_true rfl), (Nat.le_of_ble_eq_true rfl)⟩) hK hP [] rfl  rfl hl.1 rfl (Nat.le_of_ble_eq_true rfl) dL_build_88 ⟨(by omega : _ ≤ 1700), (by omega : _ ≤ 22000)⟩ rfl ?_
        refine lv_iconst (v := 4) hx hb dL_build_91 (by decide) ?_
        refine lv_isub hx hb dL_build_92 ?_
        obtain ⟨u9, eu, hu1, hu2⟩ : ∃ u9 : Int32, u9 = (nI (xBl (v128x >>> (3 &&& 31)) 12)) - 4 ∧ ¬ u9 < (-999) ∧ u9 ≤ 999 := ⟨_, rfl, xnum4 (k := xBl (v128x >>> (3 &&& 31)) 12) (by have := xBl_lt (v := (v128x >>> (3 &&& 31))) (N := 12) (by omega); omega)⟩
        refine x_top (y := u9) eu.symm ?_
        refine x_iast (f := g) hx hb hK hP hD hS 21 rfl k rfl (by omega) (by omega) dL_build_93 (fun H locs hP hD hS => ?_)
        have hP : xP γ (([xO q0 2 [.ref q1, .ref q4, .int (nI 0), .int 0, .ref q2, .ref q3], xO q1 0 [.ref a1, .int (nI P9)], xA γ a1 12 g, xO q2 0 [.ref a2, .int tn], xA γ a2 12 tf, xO q3 1 [.ref a3, .int wn], xA γ a3 12 wf, xQ γ q4 6 (fun t9 => some (kq t9))] ++ xKp γ kq ka kn ks) ++ ([xO q0x 3 [.ref q23x, .ref tq0, .int 0], xA γ q23x P9 (upd g k u9), xT γ tq0 0 (fun t9 => some (ta t9))] ++ xTs γ ta P9 ks 0)) H := hP
        have hD : va_D A (([xO q0 2 [.ref q1, .ref q4, .int (nI 0), .int 0, .ref q2, .ref q3], xO q1 0 [.ref a1, .int (nI P9)], xA γ a1 12 g, xO q2 0 [.ref a2, .int tn], xA γ a2 12 tf, xO q3 1 [.ref a3, .int wn], xA γ a3 12 wf, xQ γ q4 6 (fun t9 => some (kq t9))] ++ xKp γ kq ka kn ks) ++ ([xO q0x 3 [.ref q23x, .ref tq0, .int 0], xA γ q23x P9 (upd g k u9), xT γ tq0 0 (fun t9 => some (ta t9))] ++ xTs γ ta P9 ks 0)) := hD
        refine lv_aload_n hx hb dL_build_94 rfl (lv_at hl 0 rfl) ?_
        refine lv_iload hx hb dL_build_95 (lv_at hl 4 rfl) ?_
        refine lv_aload_n hx hb dL_build_97 rfl (lv_at hl 2 rfl) ?_
        refine va_get (D := γ.1) (ci := 3) (v := .ref q23x) (C := RX3) (T := TX3) (N := 3) hx hb hts iwL_build_3 hown hK hP 20 rfl rfl 0 (by decide) (hts _ flL_build_9) (fun _ h9 => h9) rfl dL_build_98 ?_
        refine lv_iload hx hb dL_build_101 (lv_at hl 4 rfl) ?_
        refine x_iald (f := upd g k u9) hx hb hK hP 21 rfl k rfl (by omega) (by omega) dL_build_103 ?_
        refine x_top (y := u9) (by unfold upd; rw [if_pos rfl]) ?_
        refine xVM (q0 := 0) (ci := 2) (As := [.int (nI k), .int u9]) (rest := []) ⟨hx, hb, hml, hown, hts⟩ (c_X2_put γ l q0 q1 q2 q3 q4 0 0 a1 P9 g k u9 (by omega) (by omega) (by omega) hu1 hu2) (cwV 2 hts gL_build_X2_put rfl rfl rfl hdv_X2_put ⟨(Nat.le_of_ble_eq_true rfl), (Nat.le_of_ble_eq_true rfl)⟩) hK hP hD hS hA [0, 1, 2] rfl rfl rfl rfl rfl hl.1 rfl (Nat.le_of_ble_eq_true rfl) dL_build_104 ⟨(by omega : _ ≤ 1700), (by omega : _ ≤ 22000)⟩ (fun r9 w9 H locs hw hP hD hS => ?_)
        obtain ⟨rfl, rfl⟩ := hw
        have hP : xP γ (([xO q0 2 [.ref q1, .ref q4, .int (nI 0), .int 0, .ref q2, .ref q3], xO q1 0 [.ref a1, .int (nI P9)], xA γ a1 12 (upd g k u9), xO q2 0 [.ref a2, .int tn], xA γ a2 12 tf, xO q3 1 [.ref a3, .int wn], xA γ a3 12 wf, xQ γ q4 6 (fun t9 => some (kq t9))] ++ xKp γ kq ka kn ks) ++ ([xO q0x 3 [.ref q23x, .ref tq0, .int 0], xA γ q23x P9 (upd g k u9), xT γ tq0 0 (fun t9 => some (ta t9))] ++ xTs γ ta P9 ks 0)) H := hP
        have hD : va_D A (([xO q0 2 [.ref q1, .ref q4, .int (nI 0), .int 0, .ref q2, .ref q3], xO q1 0 [.ref a1, .int (nI P9)], xA γ a1 12 (upd g k u9), xO q2 0 [.ref a2, .int tn], xA γ a2 12 tf, xO q3 1 [.ref a3, .int wn], xA γ a3 12 wf, xQ γ q4 6 (fun t9 => some (kq t9))] ++ xKp γ kq ka kn ks) ++ ([xO q0x 3 [.ref q23x, .ref tq0, .int 0], xA γ q23x P9 (upd g k u9), xT γ tq0 0 (fun t9 => some (ta t9))] ++ xTs γ ta P9 ks 0)) := hD
        refine W.eq (g2 := F0 m 107 ls [.int (g k)]) rfl ?_
        refine lv_if_eq (tgt := 112) hx hb dL_build_107 (by decide) (fun _ => ?_) (fun c => absurd (hz k (Nat.le_refl k)) c)
        refine lv_iinc (v := nI (k + 1)) (lv' := [(4, .int (nI (k + 1))), (0, .ref q0), (1, .ref b), (2, .ref q0x), (3, .int (nI P9))]) hx hb dL_build_112 hl (k := 4) rfl (nI_add k 1) (by decide) rfl (fun ls hl => ?_)
        refine lv_goto (tgt := 43) hx hb dL_build_115 (by decide) ?_
        exact ih43 (k + 1) (upd g k u9) (by omega) (fun i hi => by unfold upd; rw [if_neg (by omega)]; exact hz i (by omega)) (hI.put (by omega) (by omega) hu1 hu2) _ _ hP hD hS ls (lv_sub hl [1, 2, 3, 4, 0] rfl)
      · refine lv_sipush (v := 200) hx hb dL_build_80 (by decide) ?_
        refine lv_goto (tgt := 88) hx hb dL_build_83 (by decide) ?_
        refine xSR (As := [.int (v128x >>> (3 &&& 31)), .int 200]) (rest := [.int (nI k), .ref q23x]) (stk := [.int (nI (xBl (v128x >>> (3 &&& 31)) 200)), .int (nI k), .ref q23x]) ⟨hx, hb, hml, hown, hts⟩ (c_L_below γ l (v128x >>> (3 &&& 31)) 200 (by omega) (by omega)) (va_cwS 2 hts gL_build_L_below rfl rfl rfl hds_L_below ⟨(Nat.le_of_ble_eq_true rfl), (Nat.le_of_ble_eq_true rfl)⟩) hK hP [] rfl  rfl hl.1 rfl (Nat.le_of_ble_eq_true rfl) dL_build_88 ⟨(by omega : _ ≤ 1700), (by omega : _ ≤ 22000)⟩ rfl ?_
        refine lv_iconst (v := 4) hx hb dL_build_91 (by decide) ?_
        refine lv_isub hx hb dL_build_92 ?_
        obtain ⟨u9, eu, hu1, hu2⟩ : ∃ u9 : Int32, u9 = (nI (xBl (v128x >>> (3 &&& 31)) 200)) - 4 ∧ ¬ u9 < (-999) ∧ u9 ≤ 999 := ⟨_, rfl, xnum4 (k := xBl (v128x >>> (3 &&& 31)) 200) (by have := xBl_lt (v := (v128x >>> (3 &&& 31))) (N := 200) (by omega); omega)⟩
        refine x_top (y := u9) eu.symm ?_
        refine x_iast (f := g) hx hb hK hP hD hS 21 rfl k rfl (by omega) (by omega) dL_build_93 (fun H locs hP hD hS => ?_)
        have hP : xP γ (([xO q0 2 [.ref q1, .ref q4, .int (nI 0), .int 0, .ref q2, .ref q3], xO q1 0 [.ref a1, .int (nI P9)], xA γ a1 12 g, xO q2 0 [.ref a2, .int tn], xA γ a2 12 tf, xO q3 1 [.ref a3, .int wn], xA γ a3 12 wf, xQ γ q4 6 (fun t9 => some (kq t9))] ++ xKp γ kq ka kn ks) ++ ([xO q0x 3 [.ref q23x, .ref tq0, .int 0], xA γ q23x P9 (upd g k u9), xT γ tq0 0 (fun t9 => some (ta t9))] ++ xTs γ ta P9 ks 0)) H := hP
        have hD : va_D A (([xO q0 2 [.ref q1, .ref q4, .int (nI 0), .int 0, .ref q2, .ref q3], xO q1 0 [.ref a1, .int (nI P9)], xA γ a1 12 g, xO q2 0 [.ref a2, .int tn], xA γ a2 12 tf, xO q3 1 [.ref a3, .int wn], xA γ a3 12 wf, xQ γ q4 6 (fun t9 => some (kq t9))] ++ xKp γ kq ka kn ks) ++ ([xO q0x 3 [.ref q23x, .ref tq0, .int 0], xA γ q23x P9 (upd g k u9), xT γ tq0 0 (fun t9 => some (ta t9))] ++ xTs γ ta P9 ks 0)) := hD
        refine lv_aload_n hx hb dL_build_94 rfl (lv_at hl 0 rfl) ?_
        refine lv_iload hx hb dL_build_95 (lv_at hl 4 rfl) ?_
        refine lv_aload_n hx hb dL_build_97 rfl (lv_at hl 2 rfl) ?_
        refine va_get (D := γ.1) (ci := 3) (v := .ref q23x) (C := RX3) (T := TX3) (N := 3) hx hb hts iwL_build_3 hown hK hP 20 rfl rfl 0 (by decide) (hts _ flL_build_9) (fun _ h9 => h9) rfl dL_build_98 ?_
        refine lv_iload hx hb dL_build_101 (lv_at hl 4 rfl) ?_
        refine x_iald (f := upd g k u9) hx hb hK hP 21 rfl k rfl (by omega) (by omega) dL_build_103 ?_
        refine x_top (y := u9) (by unfold upd; rw [if_pos rfl]) ?_
        refine xVM (q0 := 0) (ci := 2) (As := [.int (nI k), .int u9]) (rest := []) ⟨hx, hb, hml, hown, hts⟩ (c_X2_put γ l q0 q1 q2 q3 q4 0 0 a1 P9 g k u9 (by omega) (by omega) (by omega) hu1 hu2) (cwV 2 hts gL_build_X2_put rfl rfl rfl hdv_X2_put ⟨(Nat.le_of_ble_eq_true rfl), (Nat.le_of_ble_eq_true rfl)⟩) hK hP hD hS hA [0, 1, 2] rfl rfl rfl rfl rfl hl.1 rfl (Nat.le_of_ble_eq_true rfl) dL_build_104 ⟨(by omega : _ ≤ 1700), (by omega : _ ≤ 22000)⟩ (fun r9 w9 H locs hw hP hD hS => ?_)
        obtain ⟨rfl, rfl⟩ := hw
        have hP : xP γ (([xO q0 2 [.ref q1, .ref q4, .int (nI 0), .int 0, .ref q2, .ref q3], xO q1 0 [.ref a1, .int (nI P9)], xA γ a1 12 (upd g k u9), xO q2 0 [.ref a2, .int tn], xA γ a2 12 tf, xO q3 1 [.ref a3, .int wn], xA γ a3 12 wf, xQ γ q4 6 (fun t9 => some (kq t9))] ++ xKp γ kq ka kn ks) ++ ([xO q0x 3 [.ref q23x, .ref tq0, .int 0], xA γ q23x P9 (upd g k u9), xT γ tq0 0 (fun t9 => some (ta t9))] ++ xTs γ ta P9 ks 0)) H := hP
        have hD : va_D A (([xO q0 2 [.ref q1, .ref q4, .int (nI 0), .int 0, .ref q2, .ref q3], xO q1 0 [.ref a1, .int (nI P9)], xA γ a1 12 (upd g k u9), xO q2 0 [.ref a2, .int tn], xA γ a2 12 tf, xO q3 1 [.ref a3, .int wn], xA γ a3 12 wf, xQ γ q4 6 (fun t9 => some (kq t9))] ++ xKp γ kq ka kn ks) ++ ([xO q0x 3 [.ref q23x, .ref tq0, .int 0], xA γ q23x P9 (upd g k u9), xT γ tq0 0 (fun t9 => some (ta t9))] ++ xTs γ ta P9 ks 0)) := hD
        refine W.eq (g2 := F0 m 107 ls [.int (g k)]) rfl ?_
        refine lv_if_eq (tgt := 112) hx hb dL_build_107 (by decide) (fun _ => ?_) (fun c => absurd (hz k (Nat.le_refl k)) c)
        refine lv_iinc (v := nI (k + 1)) (lv' := [(4, .int (nI (k + 1))), (0, .ref q0), (1, .ref b), (2, .ref q0x), (3, .int (nI P9))]) hx hb dL_build_112 hl (k := 4) rfl (nI_add k 1) (by decide) rfl (fun ls hl => ?_)
        refine lv_goto (tgt := 43) hx hb dL_build_115 (by decide) ?_
        exact ih43 (k + 1) (upd g k u9) (by omega) (fun i hi => by unfold upd; rw [if_neg (by omega)]; exact hz i (by omega)) (hI.put (by omega) (by omega) hu1 hu2) _ _ hP hD hS ls (lv_sub hl [1, 2, 3, 4, 0] rfl)
  exact loop43 P9 0 (fun _ => 0) (by omega) (fun i _ => rfl) (xInv.start hP3 hP12) _ _ hP hD hS ls (lv_sub hl [3, 4, 2, 1, 0] rfl)
